/** The boundary cases of MODELS, LOOK, TWINS, STREAMS and BENT, and of what is counted: promises 26 to 30, and parts 4 and 5 of the terms. */
public final class ModelEdgesTest {
  private static final int NO = Edge.NO;
  private static final int MAX = Edge.MAX;

  /**
   * The ways of one ORBIT from 10, 0 by the masses 0, 1000, .. 7000, with LENGTH 10, in CELLS 8 by 8 over -16 .. 15. Its SHARES:
   *
   * <pre>
   * CELL      33 34 35 36 37 38   behind STEP 10 at
   * 0          0  0  0  0  0 10   10
   * 1000       0  0  0  4  4  2    0
   * 2000       3  2  2  1  1  1   -3
   * 3000       2  2  2  2  2  0    7
   * 4000       2  2  0  2  2  2   10
   * 5000       1  2  2  0  3  2    5
   * 6000       2  0  3  0  3  2   -4
   * 7000       3  1  2  1  2  1   -9
   * </pre>
   */
  private static SwarmHouse eight(String span) {
    SwarmHouse h = Edge.with("halo " + span + " 90;");
    h.length(10);
    h.cells(8, 16);
    h.orbit(10, 0, 0, 0);
    return h;
  }

  private static void sharesOfEight() {
    Edge.says("terms 4", "A MODEL with its mass as THE MASS");
    SwarmHouse h = eight("0..7000");
    int[][] want = {
      {0, 0, 0, 0, 0, 10, 10}, {0, 0, 0, 4, 4, 2, 0}, {3, 2, 2, 1, 1, 1, -3}, {2, 2, 2, 2, 2, 0, 7},
      {2, 2, 0, 2, 2, 2, 10}, {1, 2, 2, 0, 3, 2, 5}, {2, 0, 3, 0, 3, 2, -4}, {3, 1, 2, 1, 2, 1, -9}};
    for (int i = 0; i < 8; i++) {
      h.mass(1000 * i);
      for (int c = 0; c < 6; c++) Edge.due("SHARE in " + (33 + c) + " by " + 1000 * i, h.share(0, 33 + c, 0), want[i][c]);
      Edge.due("the last place by " + 1000 * i, h.at(0, 10, 0), want[i][6]);
    }
  }

  private static void models(SwarmHouse h, int pace, int... want) {
    for (int what = 0; what < want.length; what++) Edge.due("models(" + pace + ", " + what + ")", h.models(pace, what), want[what]);
  }

  private static void many(String span, int pace, int want) {
    Edge.due("MODELS of " + span + " by " + pace, Edge.with("halo " + span + " 1;").models(pace, 0), want);
  }

  private static void masses() {
    Edge.says("terms 4", "masses from the SPAN's first on by d, not above its second, 8 at most");
    many("10..20", 10, 2);
    many("10..20", 11, 1);
    many("10..20", 9, 2);
    many("10..20", 5, 3);
    many("10..20", 6, 2);
    many("0..6", 1, 7);
    many("0..7", 1, 8);
    many("0..8", 1, 8);
    many("7..7", 1, 1);
    many("7..7", 99999, 1);
    many("0..99999", 99999, 2);
    many("0..99998", 99999, 1);
    many("1..99999", 99999, 1);
    many("1..99999", 99998, 2);
    many("0..99999", 1, 8);
    many("99999..99999", 1, 1);
    Edge.due("MODELS without a SPAN", Edge.with("halo 9 1;").models(1, 0), 1);
    Edge.due("MODELS without a FIELD", new SwarmHouse().models(99999, 0), 1);
    Edge.due("MODELS without a FIELD by 1", new SwarmHouse().models(1, 0), 1);
    models(eight("10..20"), 10, 2, 3, 10, 20);
    models(eight("10..19"), 10, 1, 1, 10, 10);
    models(eight("10..17"), 1, 8, 255, 10, 17);
    models(eight("10..18"), 1, 8, 255, 10, 17);
    models(eight("10..16"), 1, 7, 127, 10, 16);
    models(eight("0..99999"), 14285, 8, 255, 0, 99995);
    models(eight("0..99999"), 14286, 7, 127, 0, 6 * 14286);
    SwarmHouse none = new SwarmHouse();
    none.orbit(0, 0, 0, 0);
    models(none, 5, 1, 1, 0, 0, -1, -1, -1, -1);
    Edge.says("terms 4", "by a pace d (1 .. 99999)");
    SwarmHouse h = eight("0..7000");
    h.mass(77);
    for (int what = 0; what < 8; what++) {
      for (int pace : new int[] {0, 100000, -1, NO, MAX}) Edge.due("models(" + pace + ", " + what + ")", h.models(pace, what), -1);
    }
    models(h, 1, 8, 255, 0, 7, 0, 0, 1, -1);
    models(h, 99999, 1, 1, 0, 0, -1, -1, -1, -1);
    Edge.says("promise 26", "NONE for another what, pace. (THE MASS stays.)");
    for (int what : new int[] {-1, 8, 9, NO, MAX}) Edge.due("models(1000, " + what + ")", h.models(1000, what), -1);
    for (int what = 0; what < 8; what++) {
      h.models(1000, what);
      Edge.due("THE MASS behind what " + what, h.count(3), 77);
      Edge.due("the ORBIT behind what " + what, h.at(0, 10, 0), 10);
    }
    h.mass(7000);
    h.models(1000, 1);
    Edge.due("THE MASS at the other end", h.count(3), 7000);
    Edge.due("the ORBIT then", h.at(0, 10, 0), -9);
  }

  private static void kept(int cell, int low, int high, int bits, int least, int greatest) {
    SwarmHouse h = eight("0..7000");
    h.sight(0, cell, low, high);
    models(h, 1000, 8, bits, least, greatest);
  }

  private static void keptOnes() {
    Edge.says("terms 4", "A MODEL is KEPT if with its mass as THE MASS there are FITS (all NOTES).");
    kept(38, 200, 1000, 115, 0, 6000);
    kept(38, 201, 1000, 1, 0, 0);
    kept(38, 0, 200, 254, 1000, 7000);
    kept(38, 0, 99, 8, 3000, 3000);
    kept(38, 0, 100, 140, 2000, 7000);
    kept(33, 300, 1000, 132, 2000, 7000);
    kept(38, 999, 1000, 1, 0, 0);
    kept(33, 100, 100, 32, 5000, 5000);
    kept(34, 100, 100, 128, 7000, 7000);
    Edge.says("promise 26", "2: the least mass that is KEPT, 3: the greatest (NONE: none)");
    kept(33, 301, 1000, 0, -1, -1);
    SwarmHouse h = eight("0..7000");
    h.sight(0, 38, 200, 1000);
    h.sight(0, 33, 200, 1000);
    models(h, 1000, 8, 80, 4000, 6000, 34, 4, 6, 34);
    h.strike(0);
    models(h, 1000, 8, 220, 2000, 7000, 36, 2, 7, 34);
    h.strike(2);
    models(h, 1000, 8, 80, 4000, 6000);
    SwarmHouse none = Edge.with("halo 0..7000 90;");
    models(none, 1000, 8, 0, -1, -1, -1, -1, -1, -1);
    SwarmHouse unused = eight("0..7000");
    Edge.set(unused, "halo 0..7000 90; use far = 100 and near < 16;");
    models(unused, 1000, 8, 58, 1000, 5000);
    Edge.set(unused, "halo 0..7000 90; use 0;");
    models(unused, 1000, 8, 0, -1, -1, -1, -1, -1, -1);
    // the first MODEL whose mass moves it is 1000
    SwarmHouse near = eight("998..1001");
    near.sight(0, 38, 1000, 1000);
    models(near, 1, 4, 3, 998, 999);
    near.strike(0);
    near.sight(0, 38, 0, 999);
    models(near, 1, 4, 12, 1000, 1001);
  }

  private static void tells() {
    Edge.says("terms 4", "Its TELL: LIGHT of a CELL by the first of its FITS.");
    SwarmHouse rest = Edge.with("halo 0..7000 90;");
    rest.length(10);
    rest.cells(8, 16);
    rest.orbit(0, 0, 0, 0);
    rest.orbit(10, 0, 0, 0);
    models(rest, 1000, 8, 255, 0, 7000, 0, 0, 1, -1);
    // the first of FITS has but one PORTION for the ORBIT that moves; by 3000 it has no LIGHT there
    rest.sight(0, 38, 1, 1000);
    models(rest, 1000, 8, 247, 0, 7000, 33, 1, 4, 33);
    rest.sight(0, 36, 0, 1000);
    models(rest, 1000, 8, 247, 0, 7000, 33, 2, 7, 34);
    // 36 of 60 in CELL 38: by 0 from 4 PORTIONS on, and the first has no more, so its TELL in CELL 36 is 20
    SwarmHouse four = Edge.with("halo 0..999 90;");
    four.length(10);
    four.cells(8, 16);
    four.orbit(0, 0, 0, 0);
    four.orbit(10, 0, 0, 0);
    four.sight(0, 38, 600, 1000);
    Edge.due("the first of its FITS", four.weight(1, 0, 0), 2);
    models(four, 999, 2, 3, 0, 999, 0, 0, 1, -1);
    // by 1000 an ORBIT that moves has 2 of 10 in CELL 38, so the first of FITS has another WEIGHT: TELLS in CELL 36 are 50 and 54
    Edge.set(four, "halo 0..1000 90;");
    four.strike(0);
    four.sight(0, 36, 834, 1000);
    models(four, 1000, 2, 3, 0, 1000, 0, 0, 1, -1);
    four.sight(0, 38, 20, 1000);
    models(four, 1000, 2, 2, 1000, 1000, -1);
    four.strike(2);
    models(four, 1000, 2, 3, 0, 1000, 36, -1, -1, -1);
  }

  private static void looks() {
    Edge.says("promise 26", "4: LOOK (NONE with fewer than two KEPT)");
    models(eight("0..0"), 1000, 1, 1, 0, 0, -1);
    SwarmHouse one = eight("0..7000");
    one.sight(0, 38, 300, 1000);
    models(one, 1000, 8, 1, 0, 0, -1, -1, -1, -1);
    SwarmHouse none = eight("0..7000");
    none.sight(0, 0, 1, 1000);
    models(none, 1000, 8, 0, -1, -1, -1, -1, -1, -1);
    Edge.says("terms 4", "LOOK: of CELLS of G by G the one for which the most KEPT MODELS with one TELL are fewest; of several the least number.");
    Edge.due("of eight", eight("0..7000").models(1000, 4), 33);
    Edge.due("of 0, 1000", eight("0..1000").models(1000, 4), 36);
    Edge.due("of 0, 1000, 2000", eight("0..2000").models(1000, 4), 36);
    Edge.due("of 0 .. 3000", eight("0..3000").models(1000, 4), 36);
    Edge.due("of 2000, 3000", eight("2000..3000").models(1000, 4), 33);
    Edge.due("of 3000, 4000", eight("3000..4000").models(1000, 4), 35);
    Edge.due("of 0, 2000, 4000, 6000", eight("0..6000").models(2000, 4), 37);
    SwarmHouse some = eight("0..7000");
    some.sight(0, 38, 200, 200);
    // KEPT are 1000, 4000, 5000, 6000: 33 has 0 2 1 2, 34 has 0 2 2 0, 35 has 0 0 2 3, 36 has 4 2 0 0, 37 has 4 2 3 3
    models(some, 1000, 8, 114, 1000, 6000, 33, 1, 4, 33);
    Edge.due("all in one CELL", wide("0..1000", 2, 20000).models(1000, 4), 0);
    Edge.due("all nowhere", wide("0..0", 2, 8).models(1, 4), -1);
    Edge.due("all nowhere, two of them", wide("0..1", 2, 8).models(1, 4), 0);
    // the first one stays at 10, which is beyond -10 .. 9, the other goes in: they differ in the last CELL alone
    models(wide("999..1000", 2, 10), 1, 2, 3, 999, 1000, 3, 0, 1, 3);
    models(lowest(), 1, 2, 3, 999, 1000, 0, 0, 1, 0);
  }

  private static SwarmHouse lowest() {
    SwarmHouse h = Edge.with("halo 999..1000 90;");
    h.length(10);
    h.cells(2, 9);
    h.orbit(-10, -1, 0, 0);
    return h;
  }

  private static SwarmHouse wide(String span, int g, int r) {
    SwarmHouse h = eight(span);
    h.cells(g, r);
    return h;
  }

  private static void twins(int one, int other, int cell, int... seen) {
    SwarmHouse h = eight("0..7000");
    for (int c : seen) h.sight(0, c, 0, 1000);
    int[] want = {one, other, cell};
    for (int i = 0; i < 3; i++) Edge.due("models(1000, " + (5 + i) + ") with " + seen.length + " SIGHTS", h.models(1000, 5 + i), want[i]);
    SwarmHouse going = eight("0..7000");
    for (int c : seen) going.sight(1, c, -9999, 9999);
    for (int i = 0; i < 3; i++) Edge.due("models(1000, " + (5 + i) + ") with " + seen.length + " of GOING", going.models(1000, 5 + i), want[i]);
  }

  private static void allTwins() {
    Edge.says("terms 4", "TWINS: two KEPT MODELS that have the same TELL in each CELL of a SIGHT that counts (all NOTES), the lesser masses first (the first one, then the other one)");
    twins(0, 1, 36);
    twins(0, 1, 36, 35);
    twins(0, 1, 36, 0, 63);
    twins(0, 5, 33, 36);
    twins(1, 4, 33, 38);
    twins(3, 4, 35, 37);
    twins(2, 7, 34, 36, 38);
    twins(5, 6, 33, 36, 38, 37);
    twins(-1, -1, -1, 36, 38, 37, 33);
    Edge.says("terms 4", "with the first CELL in which they differ (none, if there is none)");
    SwarmHouse still = eight("0..999");
    models(still, 999, 2, 3, 0, 999, 0, 0, 1, -1);
    still.sight(0, 38, 1000, 1000);
    models(still, 999, 2, 3, 0, 999, 0, 0, 1, -1);
    Edge.says("promise 26", "5, 6: TWINS, by their numbers, 7: the CELL in which they differ (NONE: there are none such)");
    models(eight("0..0"), 1, 1, 1, 0, 0, -1, -1, -1, -1);
    SwarmHouse h = eight("0..7000");
    h.sight(0, 33, 300, 1000);
    models(h, 1000, 8, 132, 2000, 7000, 34, 2, 7, 34);
    h.sight(0, 35, 0, 1000);
    models(h, 1000, 8, 132, 2000, 7000, 34, 2, 7, 34);
    h.sight(0, 34, 0, 1000);
    models(h, 1000, 8, 132, 2000, 7000, 34, -1, -1, -1);
    h.strike(2);
    models(h, 1000, 8, 132, 2000, 7000, 34, 2, 7, 34);
    h.strike(3);
    models(h, 1000, 8, 132, 2000, 7000, 34, -1, -1, -1);
    // by 3000 alone there is no LIGHT of CELL 38: one that isn't KEPT is no TWIN of it, with or without a TELL of before
    for (int asked = 0; asked < 2; asked++) {
      SwarmHouse alone = eight("0..7000");
      if (asked == 1) models(alone, 1000, 8, 255);
      alone.sight(0, 38, 0, 0);
      models(alone, 1000, 8, 8, 3000, 3000, -1, -1, -1, -1);
      alone.strike(0);
      models(alone, 1000, 8, 255, 0, 7000, 33, 0, 1, 36);
    }
    // a STRIKE of NOTE 3 is no SIGHT of CELL 3
    SwarmHouse struck = eight("0..2000");
    struck.cells(2, 20000);
    for (int i = 0; i < 4; i++) struck.sight(0, 0, 0, 1000);
    struck.strike(3);
    models(struck, 2000, 2, 3, 0, 2000, 2, 0, 1, 2);
    struck.sight(0, 3, 0, 1000);
    models(struck, 2000, 2, 3, 0, 2000, 2, -1, -1, -1);
    // a SIGHT of a CELL beyond G by G parts none
    SwarmHouse beyond = eight("0..2000");
    beyond.cells(2, 20000);
    beyond.sight(0, 63, 0, 1000);
    models(beyond, 2000, 2, 3, 0, 2000, 2, 0, 1, 2);
    beyond.sight(0, 2, 0, 1000);
    models(beyond, 2000, 2, 3, 0, 2000, 2, -1, -1, -1);
    // one of CELL 0 does: by 1000 the ORBIT goes in from -10, with 9 STEPS there and 1 in CELL 1
    SwarmHouse lowest = lowest();
    lowest.sight(0, 2, 0, 1000);
    models(lowest, 1, 2, 3, 999, 1000, 0, 0, 1, 0);
    lowest.sight(0, 0, 0, 1000);
    models(lowest, 1, 2, 3, 999, 1000, 0, -1, -1, -1);
    // and one of CELL 63: by 1082 the ORBIT goes in from 10, 10, for D is 104 times 104; 63 has two places, 36 three
    SwarmHouse highest = Edge.with("halo 1081..1082 90;");
    highest.length(10);
    highest.cells(8, 10);
    highest.orbit(10, 10, 0, 0);
    highest.sight(0, 62, 0, 1000);
    models(highest, 1, 2, 3, 1081, 1082, 36, 0, 1, 36);
    highest.sight(0, 63, 0, 1000);
    models(highest, 1, 2, 3, 1081, 1082, 36, -1, -1, -1);
  }

  /** What is asked by the same pace again is as things are then, and behind refused calls as they were. */
  private static void askedAgain() {
    Edge.says("promise 26", "MODELS by a pace");
    SwarmHouse h = eight("0..7000");
    h.sight(0, 38, 200, 1000);
    models(h, 1000, 8, 115, 0, 6000, 33, 1, 4, 33);
    int[] before = new int[8];
    for (int what = 0; what < 8; what++) before[what] = h.models(1000, what);
    h.length(9);
    h.cells(9, 16);
    h.cells(8, 7);
    h.portions(11);
    h.sight(0, 38, 0, 1001);
    h.strike(1);
    h.orbit(10000, 0, 0, 0);
    h.field(-1);
    h.field(1);
    h.mass(7001);
    h.models(0, 1);
    h.models(100000, 1);
    h.models(1000, 8);
    models(h, 1000, before);
    models(h, 2000, 4, 13, 0, 6000);
    models(h, 1000, before);
    Edge.due("a FAULT", Edge.tell(h, "halo 0..10 9"), -1);
    models(h, 1000, before);
    h.mass(3000);
    models(h, 1000, before);
    h.fits(0);
    h.quarrel(0);
    models(h, 1000, before);
    h.portions(7);
    models(h, 1000, before);
    h.strike(0);
    models(h, 1000, 8, 255);
    h.length(11);
    h.sight(0, 38, 1000, 1000);
    models(h, 1000, 8, 1);
    h.cells(2, 20000);
    models(h, 1000, 8, 0);
    h.strike(2);
    models(h, 1000, 8, 255);
    Edge.set(h, "halo 0..3000 90;");
    models(h, 1000, 4, 15);
    // each call that changes something, between two by the pace 1
    SwarmHouse one = eight("998..1001");
    one.orbit(0, 0, 0, 0);
    models(one, 1, 4, 15);
    one.sight(0, 38, 150, 250);
    models(one, 1, 4, 15);
    one.portions(1);
    models(one, 1, 4, 12);
    one.portions(10);
    models(one, 1, 4, 15);
    one.strike(0);
    one.sight(0, 38, 1000, 1000);
    models(one, 1, 4, 3);
    one.strike(2);
    models(one, 1, 4, 15, 998, 1001, 36);
    one.cells(8, 8);
    one.sight(0, 38, 0, 0);
    models(one, 1, 4, 15);
    one.strike(4);
    one.length(240);
    one.sight(0, 39, 1, 1000);
    models(one, 1, 4, 12);
    one.sight(0, 63, 1, 1000);
    models(one, 1, 4, 0);
    one.orbit(7, 7, 0, 0);
    models(one, 1, 4, 12);
    Edge.set(one, "halo 1000..1001 90;");
    models(one, 1, 2, 3);
  }

  // ---- promises 27 and 28 ----

  private static SwarmHouse sky() {
    SwarmHouse h = new SwarmHouse();
    h.cells(2, 20000);
    return h;
  }

  private static int stream(SwarmHouse h, int... w) { return h.stream(w[0], w[1], w[2], w[3], w[4], w[5], w[6], w[7], w[8], w[9]); }

  private static void taken(int... w) {
    SwarmHouse h = sky();
    Edge.due("a STREAM " + told(w), stream(h, w) >= 0, true);
    Edge.due("and its CELLS", Long.bitCount(h.trail()), stream(h, w));
  }

  private static void refused(int... w) {
    SwarmHouse h = sky();
    Edge.due("a STREAM " + told(w) + " with none at hand", stream(h, w), -1);
    Edge.due("TRAIL with none at hand", h.trail(), 0);
    Edge.due("bent with none at hand", h.bent(1, 0), -1);
    stream(h, 5, 5, 0, 0, -10, 0, 0, 0, 2, 1);
    Edge.due("a STREAM " + told(w), stream(h, w), -1);
    Edge.due("the one at hand stays", h.trail(), 12);
  }

  private static String told(int... w) {
    StringBuilder all = new StringBuilder();
    for (int n : w) all.append(n).append(' ');
    return all.toString();
  }

  private static void streamEnds() {
    Edge.says("terms 5", "of m stars (2 .. 16); each does s STEPS (1 .. 240)");
    for (int m : new int[] {2, 3, 15, 16}) taken(0, 0, 0, 0, 1, 1, 1, 1, m, 9);
    for (int m : new int[] {1, 17, 0, -1, NO, MAX}) refused(0, 0, 0, 0, 0, 0, 0, 0, m, 9);
    for (int s : new int[] {1, 2, 239, 240}) taken(0, 0, 0, 0, 1, 1, 1, 1, 2, s);
    for (int s : new int[] {0, 241, -1, NO, MAX}) refused(0, 0, 0, 0, 0, 0, 0, 0, 2, s);
    Edge.says("promise 27", "x, y up to 9999, u, v up to 999 at its first and last star");
    int[] limits = {9999, 9999, 999, 999};
    for (int i = 0; i < 4; i++) {
      for (int way = -1; way <= 1; way += 2) {
        for (int m : new int[] {2, 3, 16}) {
          // at its first star
          int[] w = {0, 0, 0, 0, 0, 0, 0, 0, m, 1};
          w[i] = way * limits[i];
          taken(w);
          w[4 + i] = -way;
          taken(w);
          w[i] += way;
          refused(w);
          w[i] += way * (m - 2);
          refused(w);
          // at its last star
          w[4 + i] = way;
          w[i] = way * (limits[i] - m + 1);
          taken(w);
          w[i] += way;
          refused(w);
        }
        for (int beyond : new int[] {NO, MAX}) {
          int[] w = {0, 0, 0, 0, 0, 0, 0, 0, 2, 1};
          w[i] = beyond;
          refused(w);
          w[4 + i] = beyond > 0 ? NO : MAX;
          refused(w);
        }
      }
    }
    Edge.says("promise 27", "a, b, c, d up to 999 either way");
    for (int i = 0; i < 4; i++) {
      for (int way = -1; way <= 1; way += 2) {
        int[] w = {0, 0, 0, 0, 0, 0, 0, 0, 2, 1};
        w[4 + i] = 999 * way;
        taken(w);
        w[4 + i] = 1000 * way;
        refused(w);
        // its last star is within, also where the numbers run round
        w[i] = -way * limits[i];
        refused(w);
      }
      int[] round = {0, 0, 0, 0, 0, 0, 0, 0, 5, 1};
      round[4 + i] = 1 << 30;
      refused(round);
      round[8] = 9;
      round[4 + i] = 1 << 29;
      refused(round);
      round[8] = 3;
      round[4 + i] = NO;
      refused(round);
      round[8] = 2;
      round[4 + i] = MAX;
      refused(round);
    }
  }

  private static void trails() {
    Edge.says("promise 28", "TRAIL of the STREAM at hand, with THE MASS; 0 without one.");
    Edge.due("trail()", new SwarmHouse().trail(), 0);
    Edge.says("terms 5", "star i begins at x + i a, y + i b with u + i c, v + i d");
    SwarmHouse h = new SwarmHouse();
    h.cells(8, 8);
    Edge.due("the first and the last CELL", stream(h, -8, -8, 0, 0, 15, 15, 0, 0, 2, 1), 2);
    Edge.due("their bits", h.trail(), 1L << 63 | 1);
    Edge.due("one beyond each", stream(h, -9, -9, 0, 0, 17, 17, 0, 0, 2, 1), 0);
    Edge.due("no bits", h.trail(), 0);
    Edge.due("sixteen in a slant", stream(h, -8, -8, 0, 0, 1, 1, 0, 0, 16, 240), 8);
    Edge.due("their bits", h.trail(), 0x8040201008040201L);
    Edge.due("fifteen", stream(h, -8, -8, 0, 0, 1, 1, 0, 0, 14, 240), 7);
    Edge.due("speeds by their numbers", stream(h, -8, -8, 0, 0, 0, 0, 1, 0, 16, 1), 8);
    Edge.due("all of a row", h.trail(), 255);
    Edge.due("speeds by their numbers, up", stream(h, -8, -8, 0, 0, 0, 0, 0, 1, 16, 1), 8);
    Edge.due("all of a column", h.trail(), 0x0101010101010101L);
    Edge.due("sixteen CELLS", stream(h, -8, -8, 0, 0, 1, 0, 0, 1, 16, 1), 8);
    Edge.due("behind its STEPS, not at the start", stream(h, -9, -8, 1, 0, 0, 0, 0, 0, 2, 1), 1);
    Edge.due("one CELL with two stars", h.trail(), 1);
    h.cells(8, 16);
    Edge.due("by CELLS of now", h.trail(), 1L << 18);
    h.cells(8, 8);
    Edge.due("behind two STEPS", stream(h, -10, -8, 1, 0, 0, 0, 0, 0, 2, 2), 1);
    Edge.due("not yet behind one", stream(h, -10, -8, 1, 0, 0, 0, 0, 0, 2, 1), 0);
    Edge.due("behind 240", stream(h, -248, -8, 1, 0, 0, 0, 0, 0, 2, 240), 1);
    Edge.due("not yet behind 239", stream(h, -248, -8, 1, 0, 0, 0, 0, 0, 2, 239), 0);
    h.cells(4, 1000);
    Edge.due("sixteen CELLS of 4 by 4", stream(h, -999, -999, 0, 0, 133, 0, 0, 0, 16, 1), 4);
    SwarmHouse mass = Edge.with("halo 0..7000 90;");
    mass.cells(8, 16);
    stream(mass, 10, 0, 0, 0, 0, 0, 0, 0, 2, 10);
    int[] cells = {38, 36, 35, 37, 38, 37, 35, 33};
    for (int i = 0; i < 8; i++) {
      mass.mass(1000 * i);
      Edge.due("TRAIL with mass " + 1000 * i, mass.trail(), 1L << cells[i]);
    }
    Edge.set(mass, "");
    Edge.due("TRAIL in the FIELD of now", mass.trail(), 1L << 38);
    mass.length(240);
    Edge.due("LENGTH is not of it", mass.trail(), 1L << 38);
    Edge.says("terms 5", "from time 0 on");
    SwarmHouse guest = Edge.with("guest 1 0 99 0 90 2;");
    guest.cells(2, 1000);
    // at time 0 the guest is 1 ahead and pulls by 90 by 5, at 1 and later by 1 or less; from time 1 on it were farther from the first
    stream(guest, 0, 0, 0, 0, 0, 0, 0, 0, 2, 1);
    Edge.due("a STREAM goes by the guest", guest.trail(), 8);
    guest.cells(8, 20);
    Edge.due("it is at 18", guest.trail(), 1L << 39);
  }

  private static void goneStars() {
    Edge.says("terms 5", "bits of CELLS where stars that aren't GONE are then");
    SwarmHouse h = sky();
    int[][] ways = {{1, 0, 3}, {-1, 0, 2}, {0, 1, 3}, {0, -1, 1}};
    for (int[] w : ways) {
      int x = w[0];
      int y = w[1];
      Edge.due("at 19999", stream(h, 9019 * x, 9019 * y, 549 * x, 549 * y, 0, 0, 0, 0, 2, 20), 1);
      Edge.due("its CELL", h.trail(), 1L << w[2]);
      Edge.due("20000 is in no CELL but on the lower side", stream(h, 9020 * x, 9020 * y, 549 * x, 549 * y, 0, 0, 0, 0, 2, 20), x + y > 0 ? 0 : 1);
      Edge.due("at 20001", stream(h, 9021 * x, 9021 * y, 549 * x, 549 * y, 0, 0, 0, 0, 2, 20), 0);
    }
    // one of two is GONE
    Edge.due("the other is there", stream(h, 9000, 0, 0, 0, 0, 0, 999, 0, 2, 20), 1);
    // heaps far behind turn a star round beyond 20000: it were back, but it does no STEP more
    SwarmHouse back = Edge.with("heap -9999 0 99999 1;".repeat(8));
    back.cells(2, 20000);
    long x = 9999;
    long u = 999;
    int out = 0;
    int again = 0;
    for (int s = 1; s <= 110; s++) {
      long dx = x + 9999;
      u -= 8 * (99999 * dx / (dx * dx + 1));
      x += u;
      if (x > 20000 && out == 0) out = s;
      if (x < 20000 && out > 0) again = s;
      Edge.due("CELLS behind " + s, stream(back, 9999, 0, 999, 0, 0, 0, 0, 0, 2, s), out == 0 ? 1 : 0);
    }
    Edge.due("it is out, and were back", out == 13 && again == 110, true);
  }

  // ---- promise 29 ----

  private static void bents() {
    Edge.says("promise 29", "BENT by a pace of the STREAM at hand, for a told TRAIL: the mass; NONE: no such pace, no STREAM.");
    Edge.due("no STREAM", new SwarmHouse().bent(1, 0), -1);
    SwarmHouse h = Edge.with("halo 0..9000 90;");
    h.cells(8, 16);
    Edge.due("no STREAM in a SPAN", h.bent(1000, 0), -1);
    stream(h, 10, 0, 0, 0, 0, 0, 0, 0, 2, 10);
    h.mass(4321);
    for (int pace : new int[] {0, 100000, -1, NO, MAX}) Edge.due("bent(" + pace + ", 0)", h.bent(pace, 0), -1);
    Edge.due("bent(1, 0)", h.bent(1, 0), 0);
    Edge.due("bent(99999, 0)", h.bent(99999, 0), 0);
    Edge.says("terms 5", "BENT: of masses as for MODELS that by which the TRAIL has fewest CELLS unlike a told one, of several the least.");
    int[][] cells = {{36, 1000}, {35, 2000}, {37, 3000}, {38, 0}, {33, 7000}, {63, 0}, {0, 0}};
    for (int[] c : cells) Edge.due("told CELL " + c[0], h.bent(1000, 1L << c[0]), c[1]);
    Edge.due("by 2000: 0, 2000, 4000, 6000, 8000", h.bent(2000, 1L << 35), 2000);
    Edge.due("by 4000: 0, 4000, 8000", h.bent(4000, 1L << 36), 0);
    Edge.due("by 7000", h.bent(7000, 1L << 33), 7000);
    Edge.due("two CELLS, one of each", h.bent(1000, 1L << 35 | 1L << 36), 1000);
    Edge.due("told all", h.bent(1000, -1L), 0);
    Edge.due("told all but one", h.bent(1000, ~(1L << 38)), 1000);
    Edge.due("told all but two", h.bent(1000, ~(1L << 38 | 1L << 36)), 2000);
    Edge.due("told the highest bit", h.bent(1000, Long.MIN_VALUE | 1L << 33), 7000);
    Edge.due("told the greatest number", h.bent(1000, Long.MAX_VALUE), 0);
    Edge.due("THE MASS stays", h.count(3), 4321);
    Edge.due("all 64 unlike", h.bent(99999, ~(1L << 38)), 0);
    // behind 7 STEPS two stars are in two CELLS by 1000, and beyond them by 2000: both are unlike by one
    SwarmHouse two = Edge.with("halo 1000..2000 90;");
    two.cells(8, 10);
    Edge.due("two CELLS by 1000", stream(two, 10, 0, 0, 0, -10, 10, 0, 0, 2, 7), 2);
    Edge.due("which they are", two.trail(), 1L << 37 | 1L << 44);
    two.mass(2000);
    Edge.due("none by 2000", two.trail(), 0);
    Edge.due("one too many is as one too few", two.bent(1000, 1L << 37), 1000);
    Edge.due("told none", two.bent(1000, 0), 2000);
    Edge.due("told another", two.bent(1000, 1), 2000);
    Edge.due("told both", two.bent(1000, 1L << 37 | 1L << 44), 1000);
    Edge.says("terms 5", "masses as for MODELS");
    SwarmHouse last = Edge.with("halo 993..1001 90;");
    last.cells(8, 16);
    stream(last, 10, 0, 0, 0, 0, 0, 0, 0, 2, 10);
    Edge.due("the eighth moves it", last.bent(1, 1L << 36), 1000);
    Edge.set(last, "halo 992..1001 90;");
    Edge.due("a ninth doesn't count", last.bent(1, 1L << 36), 992);
    Edge.set(last, "halo 998..1000 90;");
    Edge.due("up to its second", last.bent(2, 1L << 36), 1000);
    Edge.due("not above it", last.bent(3, 1L << 36), 998);
    Edge.set(last, "halo 1000..1000 90;");
    Edge.due("one mass", last.bent(1, 0), 1000);
    Edge.set(last, "halo 5000 90;");
    Edge.due("no SPAN", last.bent(1, 1L << 37), 0);
    Edge.due("a STREAM behind it", last.trail(), 1L << 37);
  }

  // ---- promise 30 ----

  private static void counts() {
    Edge.says("promise 30", "0 PARTS, 1 ORBITS, 2 NOTES, 3 THE MASS, 4, 5 the SPAN, 6 KNOTS, 7 LENGTH, 8 G, 9 R, 10 PORTIONS. NONE for another what.");
    SwarmHouse h = new SwarmHouse();
    counted(h, 0, 0, 0, 0, 0, 0, 0, 60, 4, 1000, 6);
    Edge.set(h, "disc 1 1;".repeat(7) + "halo 99998..99999 1; use 1" + "+1".repeat(23) + ";");
    for (int i = 0; i < 6; i++) h.orbit(i, i, i, i);
    for (int i = 0; i < 5; i++) h.sight(0, 0, 0, 0);
    for (int i = 0; i < 5; i++) h.strike(0);
    h.mass(99999);
    h.length(240);
    h.cells(8, 20000);
    h.portions(10);
    counted(h, 8, 6, 10, 99999, 99998, 99999, 47, 240, 8, 20000, 10);
    for (int what : new int[] {-1, 11, 12, NO, MAX}) Edge.due("count(" + what + ")", h.count(what), -1);
    h.length(10);
    h.cells(2, 8);
    h.portions(1);
    Edge.set(h, "");
    counted(h, 0, 6, 10, 0, 0, 0, 0, 10, 2, 8, 1);
  }

  private static void counted(SwarmHouse h, int... want) {
    for (int what = 0; what < want.length; what++) Edge.due("count(" + what + ")", h.count(what), want[what]);
  }

  public static void main(String[] args) {
    sharesOfEight();
    masses();
    keptOnes();
    tells();
    looks();
    allTwins();
    askedAgain();
    streamEnds();
    trails();
    goneStars();
    bents();
    counts();
    Edge.end();
  }
}
