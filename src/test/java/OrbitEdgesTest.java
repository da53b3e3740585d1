/** The boundary cases of THE MASS, the PULL, STEPS and ORBITS: promises 5 to 16, and parts 1 and 2 of the terms. */
public final class OrbitEdgesTest {
  private static final int NO = Edge.NO;
  private static final int MAX = Edge.MAX;
  private static final String[] LINES = {
    "heap 2 1 9000 5;", "disc 900 5;", "halo 800 3;", "halo 300..900 3;", "bar 1000 5 1;", "guest 2 1 3 -2 9000 5;"};
  private static final String[] USES = {"use 1;", "use 0;", "use not 0;", "use not not 0;", "use near < 0 and far;", "use 1 / 0;", ""};
  private static final int[][] ENDS = {{9999, 0, 0, 0}, {-9999, 0, 0, 0}, {0, 9999, 0, 0}, {0, -9999, 0, 0}, {0, 0, 999, 0}, {0, 0, -999, 0}, {0, 0, 0, 999}, {0, 0, 0, -999}};
  private static final int[][] BEYOND = {
    {10000, 0, 0, 0}, {-10000, 0, 0, 0}, {0, 10000, 0, 0}, {0, -10000, 0, 0}, {0, 0, 1000, 0}, {0, 0, -1000, 0}, {0, 0, 0, 1000}, {0, 0, 0, -1000},
    {NO, 0, 0, 0}, {0, NO, 0, 0}, {0, 0, NO, 0}, {0, 0, 0, NO}, {MAX, 0, 0, 0}, {0, MAX, 0, 0}, {0, 0, MAX, 0}, {0, 0, 0, MAX}};

  // ---- promise 5 ----

  private static void massOf(String text, int first, int last) {
    SwarmHouse h = Edge.with(text);
    Edge.due("THE MASS at first of " + text, h.count(3), first);
    Edge.due("the SPAN's first of " + text, h.count(4), first);
    Edge.due("the SPAN's second of " + text, h.count(5), last);
    for (int m : new int[] {first - 1, last + 1, NO, MAX}) {
      Edge.due("mass(" + m + ") of " + text, h.mass(m), false);
      Edge.due("THE MASS behind it", h.count(3), first);
    }
    Edge.due("mass(" + last + ") of " + text, h.mass(last), true);
    Edge.due("THE MASS then", h.count(3), last);
    for (int m : new int[] {first - 1, last + 1, NO, MAX}) {
      Edge.due("mass(" + m + ") of " + text, h.mass(m), false);
      Edge.due("THE MASS behind it", h.count(3), last);
    }
    Edge.due("mass(" + first + ") of " + text, h.mass(first), true);
    Edge.due("THE MASS then", h.count(3), first);
  }

  private static void masses() {
    Edge.says("promise 5", "THE MASS: true; false: not in the SPAN.");
    massOf("halo 10..20 5;", 10, 20);
    massOf("halo 0..99999 5;", 0, 99999);
    massOf("halo 7..7 5;", 7, 7);
    massOf("halo 99999..99999 5;", 99999, 99999);
    massOf("disc 5 5; halo 3 4; halo 10..20 5; halo 4 4;", 10, 20);
    Edge.says("terms 1", "without such a halo the SPAN is 0 .. 0");
    massOf("", 0, 0);
    massOf("halo 7 5;", 0, 0);
    massOf("heap 1 1 7 5; disc 7 1; bar 7 1 1; guest 1 1 1 1 7 1; use 7;", 0, 0);
    SwarmHouse h = Edge.with("halo 900 2;");
    h.mass(0);
    Edge.due("such a halo keeps its M", h.pull(1, 0, 0, 0), -100);
    Edge.due("mass(0) without a FIELD", new SwarmHouse().mass(0), true);
    Edge.due("mass(1) without a FIELD", new SwarmHouse().mass(1), false);
    Edge.due("mass(-1) without a FIELD", new SwarmHouse().mass(-1), false);
    Edge.says("terms 1", "THE MASS is the M of the halo with '..'");
    SwarmHouse two = Edge.with("halo 0..900 2; halo 90 2;");
    Edge.due("with mass 0", two.pull(1, 0, 0, 0), -10);
    two.mass(900);
    Edge.due("with mass 900", two.pull(1, 0, 0, 0), -110);
  }

  // ---- promise 6 ----

  private static void pull(String text, int x, int y, int t, int px, int py) {
    SwarmHouse h = Edge.with(text);
    Edge.due("px of " + text + " at " + x + ", " + y + ", " + t, h.pull(x, y, t, 0), px);
    Edge.due("py of " + text + " at " + x + ", " + y + ", " + t, h.pull(x, y, t, 1), py);
  }

  private static void pullEnds() {
    Edge.says("promise 6", "PULL at x, y (up to 20000 either way) at a time 0 .. 240");
    // D = 20001 times 20001, 99999 times 20000 by that is 4
    pull("halo 99999 1;", 20000, 0, 0, -4, 0);
    pull("halo 99999 1;", -20000, 0, 240, 4, 0);
    pull("halo 99999 1;", 0, 20000, 240, 0, -4);
    pull("halo 99999 1;", 0, -20000, 0, 0, 4);
    // at 240 it is at 23760: 99999 times 3760 by 3760 times 3760 and 1
    pull("guest 0 0 99 0 99999 1;", 20000, 0, 240, 26, 0);
    pull("guest 0 0 99 0 99999 1;", 1, 0, 0, -49999, 0);
    SwarmHouse h = Edge.with("halo 99999 1;");
    Edge.says("promise 6", "Integer.MIN_VALUE: no such ones.");
    for (int what = 0; what < 6; what++) {
      for (int far : new int[] {20001, -20001, 40000, NO, MAX}) {
        Edge.due("x " + far, h.pull(far, 0, 0, what), NO);
        Edge.due("y " + far, h.pull(0, far, 0, what), NO);
      }
      for (int t : new int[] {-1, 241, NO, MAX}) Edge.due("t " + t, h.pull(0, 0, t, what), NO);
    }
    for (int what : new int[] {-1, 6, -2, 7, NO, MAX}) Edge.due("what " + what, h.pull(1, 1, 1, what), NO);
  }

  private static void pullSpan() {
    Edge.says("promise 6", "2, 3: the least of px, py with any mass of the SPAN, 4, 5: the greatest");
    SwarmHouse h = Edge.with("halo 90..900 2; heap 50 0 0 1;");
    h.mass(450);
    int[][] want = {{-50, 0, -100, 0, -10, 0}, {50, 0, 10, 0, 100, 0}, {0, -50, 0, -100, 0, -10}, {0, 50, 0, 10, 0, 100}, {0, 0, 0, 0, 0, 0}};
    int[][] at = {{1, 0}, {-1, 0}, {0, 1}, {0, -1}, {0, 0}};
    for (int i = 0; i < at.length; i++) {
      for (int what = 0; what < 6; what++) Edge.due("what " + what + " at " + at[i][0] + ", " + at[i][1], h.pull(at[i][0], at[i][1], 0, what), want[i][what]);
    }
    Edge.due("THE MASS stays", h.count(3), 450);
    Edge.due("and its PULL", h.pull(1, 0, 0, 0), -50);
    // at the times of a bar that stands along x, slanted, along y, slanted: -50, 0, then -75, 25, then -100, 0, then -75, -25
    SwarmHouse bar = Edge.with("halo 90..900 2; bar 100 1 3;");
    int[][] by = {{-150, 0, -60, 0}, {-175, 25, -85, 25}, {-200, 0, -110, 0}, {-175, -25, -85, -25}};
    for (int t = 0; t <= 24; t++) {
      for (int what = 2; what < 6; what++) Edge.due("what " + what + " with a bar at " + t, bar.pull(1, 0, t, what), by[t / 3 % 4][what - 2]);
    }
    SwarmHouse one = Edge.with("halo 900..900 2;");
    for (int what = 0; what < 6; what += 2) Edge.due("a SPAN of one mass, what " + what, one.pull(1, 0, 0, what), -100);
    SwarmHouse none = Edge.with("halo 900 2;");
    for (int what = 1; what < 6; what += 2) Edge.due("no SPAN, what " + what, none.pull(0, 1, 0, what), -100);
  }

  private static void pullWhole() {
    Edge.says("terms 1", "all by whole numbers (quotients cut towards 0)");
    pull("heap 0 0 100 1;", 10, 0, 0, -9, 0);
    pull("heap 0 0 100 1;", -10, 0, 0, 9, 0);
    pull("heap 0 0 100 10;", 1, -1, 0, 0, 0);
    pull("heap 0 0 101 10;", 1, -1, 0, 0, 0);
    pull("heap 0 0 102 10;", 1, -1, 0, -1, 1);
    // the middle of each: D is above 0 there
    for (String part : new String[] {"heap 0 0 99999 1;", "disc 99999 1;", "halo 99999 1;", "bar 99999 1 1;", "guest 0 0 0 0 99999 1;"}) {
      for (int t = 0; t < 4; t++) pull(part, 0, 0, t, 0, 0);
    }
    pull("heap 9999 -9999 99999 9999;", 10000, -9999, 0, 0, 0);
    pull("heap 9999 -9999 99999 9999;", 19998, -9999, 0, -5, 0);
    pull("guest 9999 -9999 99 -99 99999 1;", 9999 + 99 * 100 + 1, -9999 - 99 * 100, 100, -49999, 0);
    Edge.says("terms 1", "r the greatest whole number whose square is not above x x + y y");
    pull("halo 1000 1;", 3, 0, 0, -187, 0);
    pull("halo 1000 1;", 2, 2, 0, -222, -222);
    pull("halo 1000 1;", 3, 1, 0, -187, -62);
    pull("halo 1000 1;", 8, 4, 0, -98, -49);
    pull("halo 1000 1;", 9, 0, 0, -90, 0);
    pull("halo 1000 1;", -9, 1, 0, 90, -10);
    pull("halo 1000 1;", 1, 0, 0, -250, 0);
    pull("halo 1000 1;", 1, 1, 0, -250, -250);
    // 800000000 is below 28285 times 28285; D = 28285 times 28285
    pull("halo 80005 1;", 20000, 20000, 0, -2, -2);
    pull("halo 80004 1;", 20000, 20000, 0, -1, -1);
    Edge.says("terms 1", "The PULL: the sums of all PARTS.");
    pull("disc 99999 1;".repeat(8), 0, 1, 0, 0, -8 * 99999);
    pull("heap 0 0 5 1;heap 0 0 5 1;", 1, 0, 0, -4, 0);
    for (String one : LINES) {
      for (String other : LINES) pullOfBoth(one, other);
    }
  }

  /** Of two PARTS (in each order) the PULL is that of the one and that of the other, at all times of a bar. */
  private static void pullOfBoth(String one, String other) {
    SwarmHouse first = Edge.with(one.replace("300..", ""));
    SwarmHouse second = Edge.with(other);
    SwarmHouse both = Edge.with(one.replace("300..", "") + other);
    for (int t = 0; t < 5; t++) {
      for (int what = 0; what < 2; what++) {
        Edge.due("PULL " + what + " of " + one + other + " at " + t, both.pull(7, 4, t, what), first.pull(7, 4, t, what) + second.pull(7, 4, t, what));
      }
    }
  }

  /** What a FIELD was before shows nowhere: a house that was told others answers as one that wasn't. */
  private static void fieldAfterField() {
    Edge.says("promise 3", "are THE FIELD from now on");
    String[] texts = new String[LINES.length + USES.length];
    System.arraycopy(LINES, 0, texts, 0, LINES.length);
    System.arraycopy(USES, 0, texts, LINES.length, USES.length);
    for (String first : texts) {
      for (String second : texts) {
        for (String third : texts) behindOthers(first, second, third);
      }
    }
  }

  private static void behindOthers(String first, String second, String third) {
    SwarmHouse h = Edge.with(first);
    Edge.set(h, second);
    Edge.set(h, third);
    SwarmHouse fresh = Edge.with(third);
    String what = third + " behind " + first + " and " + second;
    for (int i = 0; i < 6; i++) Edge.due("pull, what " + i + ", of " + what, h.pull(7, 4, 3, i), fresh.pull(7, 4, 3, i));
    for (int i = 0; i < 7; i++) Edge.due("count " + i + " of " + what, h.count(i), fresh.count(i));
    h.length(10);
    fresh.length(10);
    Edge.due("an ORBIT in " + what, h.orbit(3, 4, 0, 0), fresh.orbit(3, 4, 0, 0));
    Edge.due("USED in " + what, h.told(0, 7), fresh.told(0, 7));
  }

  private static void bars() {
    Edge.says("terms 1", "bar: by how often T is in t, its rest by 4");
    int[][] by = {{-66, -66}, {-83, -17}, {-133, -33}, {-116, -84}};
    int[][] at = {
      {3, 0, 0}, {3, 2, 0}, {3, 3, 1}, {3, 5, 1}, {3, 6, 2}, {3, 8, 2}, {3, 9, 3}, {3, 11, 3}, {3, 12, 0}, {3, 14, 0}, {3, 15, 1},
      {1, 0, 0}, {1, 1, 1}, {1, 3, 3}, {1, 4, 0}, {1, 239, 3}, {1, 240, 0}, {99, 98, 0}, {99, 99, 1}, {99, 197, 1}, {99, 198, 2}, {99, 240, 2}, {60, 239, 3}, {60, 240, 0}};
    for (int[] a : at) pull("bar 1000 5 " + a[0] + ";", 10, 5, a[1], by[a[2]][0], by[a[2]][1]);
  }

  // ---- promises 7, 8, 9 ----

  private static void star(SwarmHouse h, int... want) {
    for (int what = 0; what < 5; what++) Edge.due("starred(" + what + ")", h.starred(what), want[what]);
  }

  private static void stars() {
    Edge.says("promise 7", "One star of its own is at x, y (up to 9999 either way) with u, v (up to 999) at a time 0 .. 240: true; false: no such ones.");
    for (int[] e : ENDS) {
      for (int t : new int[] {0, 240}) {
        SwarmHouse h = new SwarmHouse();
        Edge.due("a star at an end", h.star(e[0], e[1], e[2], e[3], t), true);
        star(h, e[0], e[1], e[2], e[3], t);
      }
    }
    SwarmHouse h = new SwarmHouse();
    for (int[] b : BEYOND) Edge.due("a star beyond", h.star(b[0], b[1], b[2], b[3], 0), false);
    for (int t : new int[] {-1, 241, NO, MAX}) Edge.due("a star at " + t, h.star(0, 0, 0, 0, t), false);
    star(h, NO, NO, NO, NO, NO);
    Edge.due("there is none to go", h.go(1), -1);
    h.star(1, 2, 3, 4, 5);
    for (int[] b : BEYOND) {
      Edge.due("a star beyond", h.star(b[0], b[1], b[2], b[3], 0), false);
      star(h, 1, 2, 3, 4, 5);
    }
    for (int t : new int[] {-1, 241, NO, MAX}) {
      Edge.due("a star at " + t, h.star(0, 0, 0, 0, t), false);
      star(h, 1, 2, 3, 4, 5);
    }
    h.star(9, 8, 7, 6, 4);
    star(h, 9, 8, 7, 6, 4);
    h.star(1, 0, 800, 0, 0);
    h.go(25);
    h.star(0, 0, 1, 0, 0);
    Edge.due("a new one is not GONE", h.go(1), 1);
  }

  private static int gone(int x, int y, int u, int v, int t, int n) {
    SwarmHouse h = new SwarmHouse();
    h.star(x, y, u, v, t);
    return h.go(n);
  }

  private static void goes() {
    Edge.says("promise 8", "It does n STEPS (below 0: BACK; -240 .. 240)");
    Edge.due("go(240)", gone(0, 0, 1, 1, 0, 240), 240);
    Edge.due("go(-240)", gone(0, 0, 1, 1, 240, -240), 240);
    Edge.due("go(0)", gone(0, 0, 1, 1, 7, 0), 0);
    Edge.says("promise 8", "as far as it may (times stay 0 .. 240; GONE): how many");
    Edge.due("on from 240", gone(0, 0, 1, 1, 240, 1), 0);
    Edge.due("on from 239", gone(0, 0, 1, 1, 239, 2), 1);
    Edge.due("on from 1", gone(0, 0, 1, 1, 1, 240), 239);
    Edge.due("back from 0", gone(0, 0, 1, 1, 0, -1), 0);
    Edge.due("back from 1", gone(0, 0, 1, 1, 1, -2), 1);
    Edge.due("back from 239", gone(0, 0, 1, 1, 239, -240), 239);
    SwarmHouse h = new SwarmHouse();
    h.star(0, 0, 2, 3, 239);
    h.go(240);
    star(h, 2, 3, 2, 3, 240);
    h.star(0, 0, 2, 3, 1);
    h.go(-240);
    star(h, -2, -3, 2, 3, 0);
    Edge.says("promise 8", "NONE: no star, no such n.");
    for (int n : new int[] {0, 1, -1, 240, -240, 241}) Edge.due("go(" + n + ") of no star", new SwarmHouse().go(n), -1);
    for (int n : new int[] {241, -241, NO, MAX}) {
      Edge.due("go(" + n + ")", h.go(n), -1);
      star(h, -2, -3, 2, 3, 0);
    }
    Edge.says("promise 9", "Integer.MIN_VALUE: there is none, no such what.");
    for (int what = 0; what < 5; what++) Edge.due("starred(" + what + ") of none", new SwarmHouse().starred(what), NO);
    for (int what : new int[] {-1, 5, NO, MAX}) Edge.due("starred(" + what + ")", h.starred(what), NO);
  }

  private static void goesOut() {
    Edge.says("terms 2", "Who is beyond 20000 (either way, x or y) behind a STEP is GONE, and does no STEP more (but STEPS BACK)");
    int[][] ways = {{1, 0}, {-1, 0}, {0, 1}, {0, -1}};
    for (int[] w : ways) {
      int x = w[0];
      int y = w[1];
      Edge.due("20000 is not beyond", gone(0, 0, 800 * x, 800 * y, 0, 240), 26);
      Edge.due("20001 is", gone(x, y, 800 * x, 800 * y, 0, 240), 25);
      SwarmHouse h = new SwarmHouse();
      h.star(x, y, 800 * x, 800 * y, 0);
      h.go(240);
      star(h, 20001 * x, 20001 * y, 800 * x, 800 * y, 25);
      Edge.due("no STEP more", h.go(1), 0);
      Edge.due("go(0)", h.go(0), 0);
      Edge.due("but BACK", h.go(-1), 1);
      Edge.due("then on", h.go(2), 1);
      Edge.due("and all BACK", h.go(-240), 25);
      star(h, x, y, 800 * x, 800 * y, 0);
    }
    Edge.says("terms 2", "behind one BACK likewise (then STEPS alone)");
    for (int[] w : ways) {
      int x = w[0];
      int y = w[1];
      Edge.due("20000 is not beyond", gone(0, 0, -800 * x, -800 * y, 240, -240), 26);
      Edge.due("20001 is", gone(x, y, -800 * x, -800 * y, 240, -240), 25);
      SwarmHouse h = new SwarmHouse();
      h.star(x, y, -800 * x, -800 * y, 240);
      h.go(-240);
      star(h, 20001 * x, 20001 * y, -800 * x, -800 * y, 215);
      Edge.due("no STEP BACK more", h.go(-1), 0);
      Edge.due("but on", h.go(1), 1);
      Edge.due("then BACK", h.go(-2), 1);
      Edge.due("and all on", h.go(240), 25);
      star(h, x, y, -800 * x, -800 * y, 240);
    }
  }

  /** Beyond behind a STEP BACK, then in another FIELD still beyond behind a STEP. */
  private static void staysOut() {
    SwarmHouse h = new SwarmHouse();
    h.star(9999, 0, -999, 0, 140);
    Edge.due("BACK till it is GONE", h.go(-240), 11);
    star(h, 20988, 0, -999, 0, 129);
    Edge.set(h, "guest 9999 0 99 0 99999 1;".repeat(8));
    Edge.due("a STEP", h.go(2), 1);
    // each guest is at 22770: 99999 times 1782 by 1782 times 1782 and 1 is 56
    star(h, 20437, 0, -551, 0, 130);
    Edge.due("no STEP more", h.go(1), 0);
    Edge.due("but BACK", h.go(-2), 1);
    star(h, 20988, 0, -999, 0, 129);
    Edge.says("terms 2", "A STEP BACK: x, y become x - u, y - v, then u, v less the PULL there at t.");
    SwarmHouse far = Edge.with("heap 0 0 99999 1; heap 0 0 40003 1; halo 99999 1;");
    far.star(1, 0, 0, 0, 9);
    Edge.due("a STEP BACK", far.go(-1), 1);
    // x stays 1; the PULL there is - 49999 - 20001 - 24999
    star(far, 1, 0, 94999, 0, 8);
    Edge.due("and one more", far.go(-1), 1);
    // x is - 94998: the first heap's PULL there is 1, and so is the halo's, r being above 65536
    star(far, -94998, 0, 94997, 0, 7);
    Edge.says("terms 1", "r the greatest whole number whose square is not above x x + y y");
    for (int y = 65534; y <= 65537; y++) backTo(y);
  }

  /** Back to that y, where D is y + 1 by y + 1: M y / D is 1 by a halo of y + 3, and 0 by one of y + 2. */
  private static void backTo(int y) {
    for (int more = 0; more < 2; more++) {
      SwarmHouse h = Edge.with("disc " + (y - 1) + " 1;");
      h.star(0, 1, 0, 0, 1);
      Edge.due("a STEP out", h.go(1), 1);
      Edge.set(h, "");
      Edge.due("a STEP BACK by no PULL", h.go(-1), 1);
      star(h, 0, 1, 0, 1 - y, 1);
      Edge.set(h, "halo " + (y + 2 + more) + " 1;");
      Edge.due("BACK to " + y, h.go(-1), 1);
      star(h, 0, y, 0, 1 - y + more, 0);
    }
  }

  // ---- promises 10 and 11 ----

  private static void lengths() {
    Edge.says("promise 10", "LENGTH: true; false: no such one.");
    SwarmHouse h = new SwarmHouse();
    h.orbit(0, 0, 1, 0);
    Edge.due("60 at first", h.count(7), 60);
    Edge.due("STEPS at first", h.told(0, 0), 60);
    for (int n : new int[] {9, 241, 0, -1, NO, MAX}) {
      Edge.due("length(" + n + ")", h.length(n), false);
      Edge.due("LENGTH behind it", h.count(7), 60);
      Edge.due("STEPS behind it", h.told(0, 0), 60);
    }
    for (int n : new int[] {10, 11, 239, 240}) {
      Edge.due("length(" + n + ")", h.length(n), true);
      Edge.due("LENGTH then", h.count(7), n);
      Edge.due("STEPS then", h.told(0, 0), n);
      Edge.due("x then", h.at(0, n, 0), n);
    }
  }

  private static void orbits() {
    Edge.says("promise 11", "An ORBIT: its number; NONE: it can't be, or there are 6.");
    for (int[] e : ENDS) {
      SwarmHouse h = new SwarmHouse();
      Edge.due("an ORBIT at an end", h.orbit(e[0], e[1], e[2], e[3]), 0);
      for (int what = 0; what < 4; what++) Edge.due("its start", h.at(0, 0, what), e[what]);
    }
    SwarmHouse h = new SwarmHouse();
    for (int i = 0; i < 6; i++) {
      for (int[] b : BEYOND) Edge.due("an ORBIT beyond", h.orbit(b[0], b[1], b[2], b[3]), -1);
      Edge.due("ORBITS", h.count(1), i);
      Edge.due("its start is none", h.at(i, 0, 0), NO);
      Edge.due("ORBIT " + i, h.orbit(i, -i, 0, 0), i);
    }
    for (int i = 0; i < 3; i++) Edge.due("a seventh", h.orbit(7, 7, 0, 0), -1);
    Edge.due("ORBITS", h.count(1), 6);
    for (int i = 0; i < 6; i++) Edge.due("x of ORBIT " + i, h.at(i, 0, 0), i);
    Edge.due("x of ORBIT 6", h.at(6, 0, 0), NO);
  }

  private static void orbitPlaces(String text, int x, int y, int[][] want) {
    SwarmHouse h = Edge.with(text);
    h.orbit(x, y, 0, 0);
    h.length(10);
    for (int t = 0; t < want.length; t++) {
      for (int what = 0; what < 4; what++) Edge.due("at(0, " + t + ", " + what + ") in " + text, h.at(0, t, what), want[t][what]);
    }
  }

  private static void orbitsFrom0() {
    Edge.says("terms 2", "each goes LENGTH STEPS (10 .. 240; 60 at first) from time 0 on");
    // at 0 the guest is 1 ahead: 90 by 5; at 1 it is 82 ahead: 90 times 82 by 6728; at 2 it is 162 ahead
    orbitPlaces("guest 1 0 99 0 90 2;", 0, 0, new int[][] {{0, 0, 0, 0}, {18, 0, 18, 0}, {37, 0, 19, 0}, {56, 0, 19, 0}, {75, 0, 19, 0}});
    // the bar along y, slanted, along x, slanted: D is 10001, then 19604, 24405, 44740
    orbitPlaces("bar 10000 1 1;", 0, 100, new int[][] {{0, 100, 0, 0}, {0, -99, 0, -199}, {-50, -148, -50, -49}, {-60, -137, -10, 11}, {1, -21, 61, 116}});
  }

  private static void orbitsOut() {
    Edge.says("terms 2", "Who is beyond 20000 (either way, x or y) behind a STEP is GONE, and does no STEP more");
    int[][] ways = {{1, 0}, {-1, 0}, {0, 1}, {0, -1}};
    for (int[] w : ways) {
      SwarmHouse h = Edge.with("use gone;");
      h.orbit(0, 0, 800 * w[0], 800 * w[1]);
      h.orbit(w[0], w[1], 800 * w[0], 800 * w[1]);
      h.length(24);
      Edge.due("not GONE by 24", h.told(1, 4), 2);
      Edge.due("gone is 0", h.told(1, 7), 0);
      h.length(25);
      Edge.due("STEPS to 20000", h.told(0, 0), 25);
      Edge.due("not GONE at 20000", h.told(0, 4), 2);
      Edge.due("gone is 0 at 20000", h.told(0, 7), 0);
      Edge.due("STEPS to 20001", h.told(1, 0), 25);
      Edge.due("GONE at 20001", h.told(1, 4), 3);
      Edge.due("gone is not 0 at 20001", h.told(1, 7), 1);
      h.length(240);
      Edge.due("STEPS to 20800", h.told(0, 0), 26);
      Edge.due("no STEP more", h.told(1, 0), 25);
      Edge.due("the last place", h.at(1, 25, w[0] != 0 ? 0 : 1), 20001 * (w[0] + w[1]));
      Edge.due("none behind it", h.at(1, 26, 0), NO);
      Edge.set(h, "use gone = 25 and sort = 3;");
      Edge.due("gone of the one", h.told(0, 7), 0);
      Edge.due("gone of the other", h.told(1, 7), 1);
    }
  }

  // ---- promise 12 ----

  private static SwarmHouse way(int length, int x, int y, int u, int v) {
    SwarmHouse h = new SwarmHouse();
    h.length(length);
    h.orbit(x, y, u, v);
    return h;
  }

  private static void turns(int x, int y, int u, int v, int want) {
    Edge.due("TURNS from " + x + ", " + y + " by " + u + ", " + v, way(10, x, y, u, v).told(0, 3), want);
  }

  private static void quarters() {
    Edge.says("terms 2", "0: x above 0 and y not below; 1: y above 0 and x not above; 2: x below 0 and y not above; 3: y below 0 and x not below");
    turns(10, 1, -1, 0, 1);
    turns(11, 1, -1, 0, 0);
    turns(-1, 10, 0, -1, 1);
    turns(-1, 11, 0, -1, 0);
    turns(-10, -1, 1, 0, 1);
    turns(-11, -1, 1, 0, 0);
    turns(1, -10, 0, 1, 1);
    turns(1, -11, 0, 1, 0);
    turns(1, 10, 0, -1, 0);
    turns(1, 9, 0, -1, -1);
    turns(-10, 1, 1, 0, 0);
    turns(-9, 1, 1, 0, -1);
    turns(-1, -10, 0, 1, 0);
    turns(-1, -9, 0, 1, -1);
    turns(10, -1, -1, 0, 0);
    turns(9, -1, -1, 0, -1);
    Edge.says("terms 2", "in the middle that of before, 0 at first");
    turns(2, 0, -1, 0, 0);
    turns(0, 2, 0, -1, 0);
    turns(-2, 0, 1, 0, 0);
    turns(0, -2, 0, 2, 0);
    turns(0, 0, 0, 0, 0);
    turns(0, 0, 1, 0, 0);
    turns(0, 0, 0, 1, 1);
    turns(0, 0, -1, 0, 0);
    turns(0, 0, 0, -1, -1);
    turns(0, 10, 0, -1, 0);
    turns(-10, 0, 1, 0, 0);
    turns(0, -10, 0, 1, 0);
    Edge.says("terms 2", "TURNS: over its STEPS 1 for each to the next quarter (3 to 0, too), -1 for each to the one before, else 0 (also across).");
    turns(5, -3, -1, 1, 2);
    turns(5, 3, -1, -1, -2);
    turns(3, -5, 1, 1, 1);
    turns(1, 1, -2, -2, 0);
    turns(-1, 1, 2, -2, 0);
    turns(-1, -1, 2, 2, 0);
    turns(1, -1, -2, 2, 0);
  }

  private static void nearAndFar() {
    Edge.says("terms 2", "NEAR, FAR: the least and the greatest x x + y y of its places (at the start, too).");
    SwarmHouse h = way(10, 3, 4, 3, 4);
    Edge.due("NEAR at the start", h.told(0, 1), 25);
    Edge.due("FAR at the end", h.told(0, 2), 33 * 33 + 44 * 44);
    SwarmHouse in = way(10, 33, 44, -3, -4);
    Edge.due("NEAR at the end", in.told(0, 1), 25);
    Edge.due("FAR at the start", in.told(0, 2), 33 * 33 + 44 * 44);
    SwarmHouse at = way(10, 0, 0, 0, 0);
    Edge.due("NEAR of 0", at.told(0, 1), 0);
    Edge.due("FAR of 0", at.told(0, 2), 0);
    Edge.due("FAR beyond", way(25, 1, 0, 800, 0).told(0, 2), 20001L * 20001);
  }

  private static void sorts() {
    Edge.says("terms 2", "0 a RING (SPIN above 0 at all its places, or below 0 at all); 2 a LINE (0 at all); else 1 a BOX");
    Edge.due("SPIN 1", way(10, 1, 0, 0, 1).told(0, 4), 0);
    Edge.due("SPIN -1", way(10, 1, 0, 0, -1).told(0, 4), 0);
    Edge.due("SPIN 0", way(10, 1, 1, 2, 2).told(0, 4), 2);
    // px is 0 and py is 1 all the way, so v rises by 1 with each STEP, and SPIN is x times v
    SwarmHouse rising = Edge.with("heap 0 5000 7500 1;");
    rising.length(10);
    rising.orbit(10, 0, 0, 0);
    Edge.due("0 at first, above 0 then", rising.told(0, 4), 1);
    Edge.due("DRIFT from 0", rising.told(0, 5), 100);
    rising.orbit(-10, 0, 0, 0);
    Edge.due("0 at first, below 0 then", rising.told(1, 4), 1);
    Edge.due("DRIFT to 0", rising.told(1, 5), 100);
    rising.orbit(10, 0, 0, -10);
    Edge.due("below 0 up to 0 at the end", rising.told(2, 4), 1);
    rising.orbit(10, 0, 0, -11);
    Edge.due("below 0 at all", rising.told(3, 4), 0);
    rising.orbit(-10, 0, 0, -10);
    Edge.due("above 0 down to 0 at the end", rising.told(4, 4), 1);
    rising.orbit(10, 0, 0, 1);
    Edge.due("above 0 at all", rising.told(5, 4), 0);
    Edge.due("DRIFT of it", rising.told(5, 5), 100);
    Edge.says("terms 2", "SORT: 3 it is GONE");
    Edge.due("GONE with SPIN 0", way(25, 1, 0, 800, 0).told(0, 4), 3);
    Edge.due("GONE with SPIN above 0", way(25, 20, 1, 800, 800).told(0, 4), 3);
    Edge.due("DRIFT of 0", way(25, 1, 0, 800, 0).told(0, 5), 0);
  }

  private static void toldEnds() {
    Edge.says("promise 12", "Long.MIN_VALUE: no such ones.");
    SwarmHouse h = new SwarmHouse();
    Edge.due("told(0, 0) of none", h.told(0, 0), Edge.NO_LONG);
    h.orbit(1, 2, 3, 4);
    h.orbit(1, 2, 3, 4);
    for (int orbit : new int[] {-1, 2, 5, 6, NO, MAX}) {
      for (int what = 0; what < 8; what++) Edge.due("told(" + orbit + ", " + what + ")", h.told(orbit, what), Edge.NO_LONG);
    }
    for (int what : new int[] {-1, 8, NO, MAX}) Edge.due("told(1, " + what + ")", h.told(1, what), Edge.NO_LONG);
    for (int what = 0; what < 8; what++) Edge.due("told(1, " + what + ") is there", h.told(1, what) != Edge.NO_LONG, true);
  }

  private static void used(String e, int want) {
    SwarmHouse h = Edge.with("use " + e + ";");
    h.length(10);
    h.orbit(3, 4, 0, 0);
    Edge.due("USED by " + e, h.told(0, 7), want);
  }

  private static void uses() {
    Edge.says("terms 2", "An ORBIT is USED if there is no use, or its E is not 0 and no ERROR.");
    Edge.due("no FIELD", way(10, 1, 1, 1, 1).told(0, 7), 1);
    SwarmHouse h = Edge.with("disc 1 1;");
    h.orbit(1, 1, 1, 1);
    Edge.due("no use", h.told(0, 7), 1);
    used("0", 0);
    used("1", 1);
    used("0 - 1", 1);
    used("99999", 1);
    Edge.says("terms 2", "comparisons, and, or, not are 1 or 0 (what isn't 0 is as 1, both sides are worked out)");
    used("(5 and 0 - 5) = 1", 1);
    used("(0 or 7) = 1", 1);
    used("(0 or 0) = 0", 1);
    used("(0 and 7) = 0", 1);
    used("(not 7) = 0", 1);
    used("(not 0) = 1", 1);
    used("(not (0 - 7)) = 0", 1);
    used("(2 < 3) + (3 > 2) + (2 <= 2) + (2 >= 2) + (2 = 2) + (2 <> 3) = 6", 1);
    used("(3 < 3) + (3 > 3) + (3 <= 2) + (2 >= 3) + (2 = 3) + (3 <> 3) = 0", 1);
    String[] compared = {"<", "<=", "=", "<>", ">=", ">"};
    int[][] by = {{1, 1, 0, 1, 0, 0}, {0, 1, 1, 0, 1, 0}, {0, 0, 0, 1, 1, 1}};
    for (int i = 0; i < compared.length; i++) {
      for (int n = 0; n < 3; n++) used((6 + n) + compared[i] + "7", by[n][i]);
      used("(0 - 1) " + compared[i] + " 1", by[0][i]);
    }
    used("1 or 1 / 0", 0);
    used("1 / 0 or 1", 0);
    used("not (0 and 1 / 0)", 0);
    Edge.says("terms 2", "/ is cut towards 0");
    used("7 / 2 = 3", 1);
    used("(0 - 7) / 2 = 0 - 3", 1);
    used("7 / (0 - 2) = 0 - 3", 1);
    used("(0 - 7) / (0 - 2) = 3", 1);
    used("1 / 2 = 0", 1);
    used("(0 - 1) / 2 = 0", 1);
    Edge.says("terms 2", "ERROR: / by 0");
    used("not (1 / 0)", 0);
    used("not (0 / 0)", 0);
    used("not (1 / (near - 25))", 0);
    used("not (1 / (near - 24)) or 1", 1);
    // an ERROR of one ORBIT is none of another, nor of the same one in another FIELD
    SwarmHouse two = Edge.with("use 1 / near + 1;");
    two.length(10);
    two.orbit(0, 0, 0, 0);
    two.orbit(3, 4, 0, 0);
    two.orbit(0, 0, 0, 0);
    for (int i = 0; i < 3; i++) Edge.due("ORBIT " + i + " by an ERROR of ORBITS 0, 2", two.told(i, 7), i == 1 ? 1 : 0);
    Edge.set(two, "use 1 / (near - 25) + 1;");
    for (int i = 0; i < 3; i++) Edge.due("ORBIT " + i + " by an ERROR of ORBIT 1", two.told(i, 7), i == 1 ? 0 : 1);
    Edge.says("promise 3", "THE FIELD from now on");
    for (int i = 0; i < 6; i++) {
      Edge.set(two, i % 3 == 0 ? "use 0;" : "use near = 25 or 0;");
      Edge.due("use " + i + " of several", two.told(1, 7), i % 3 == 0 ? 0 : 1);
    }
    for (String bad : new String[] {"use 0; ?", "use 0", "use 0 or"}) {
      Edge.due("a FAULT", Edge.tell(two, bad), -1);
      Edge.due("the use before stays", two.told(1, 7), 1);
      Edge.set(two, "use 7;");
      Edge.due("a use behind a FAULT", two.told(1, 7), 1);
      Edge.due("its KNOTS", two.count(6), 1);
    }
    Edge.set(two, "");
    Edge.due("no use any more", two.told(0, 7), 1);
    Edge.says("terms 1", "a 49th KNOT");
    // all 48 KNOTS are worked out, the last ones, too
    used("not ".repeat(47) + "0", 1);
    used("not ".repeat(47) + "1", 0);
    used("not 1" + "+1".repeat(23), 0);
    used("not 0" + "*1".repeat(23), 1);
    used("1" + "+1".repeat(22) + "-23", 0);
    used("1" + "+1".repeat(22) + "-22", 1);
    used("not 1" + "-1".repeat(22) + "+21", 1);
    used("not 1" + "-1".repeat(22) + "+20", 0);
  }

  private static void values() {
    Edge.says("terms 2", "a value (of a NAME, too) above 10 to the 15 or below 0 by more than that");
    String most = "10000 * 10000 * 10000 * 1000";
    used(most, 1);
    used(most + " - 1", 1);
    used(most + " + 0", 1);
    used(most + " + 1", 0);
    used("1 + " + most, 0);
    used("0 - " + most, 1);
    used("0 - " + most + " - 0", 1);
    used("0 - " + most + " - 1", 0);
    used("0 - " + most + " + 1", 1);
    used("(0 - 10000) * 10000 * 10000 * 1000", 1);
    used("10000 * 10000 * 10000 * (0 - 1000)", 1);
    used("(0 - 10000) * 10000 * 10000 * (0 - 1000) - " + most + " = 0", 1);
    used("10000 * 10000 * 10000 * 1001", 0);
    used("10000 * 10000 * 10000 * (0 - 1001)", 0);
    used("(0 - 10000) * 10000 * 10000 * (0 - 1001)", 0);
    // 999999999999999 is 3 times 333333333333333
    used("(" + most + " - 1) / 3 * 3", 1);
    used("((" + most + " - 1) / 3 + 1) * 3", 0);
    used("(0 - (" + most + " - 1) / 3 - 1) * 3", 0);
    // beyond what is had in the middle counts, too
    used(most + " + 1 - 1", 0);
    used(most + " + 1 > 0", 0);
    used("0 * (" + most + " + 1)", 0);
    used("not (" + most + " + 1)", 0);
    used(most + " * 0 = 0", 1);
    used("99999 * 99999 * 99999 * 99999", 0);
    used("(" + most + ") * (" + most + ") or 1", 0);
    used("(0 - " + most + ") * (" + most + ") or 1", 0);
  }

  // ---- promises 13 and 14 ----

  private static void places() {
    Edge.says("promise 13", "Integer.MIN_VALUE: no such ones, or it didn't do so many.");
    SwarmHouse h = way(10, 1, 2, 3, 4);
    int[] start = {1, 2, 3, 4};
    int[] end = {31, 42, 3, 4};
    for (int what = 0; what < 4; what++) {
      Edge.due("behind 0", h.at(0, 0, what), start[what]);
      Edge.due("behind 10", h.at(0, 10, what), end[what]);
      for (int t : new int[] {-1, 11, 240, 241, NO, MAX}) Edge.due("behind " + t, h.at(0, t, what), NO);
      for (int orbit : new int[] {-1, 1, 6, NO, MAX}) Edge.due("of ORBIT " + orbit, h.at(orbit, 0, what), NO);
    }
    for (int what : new int[] {-1, 4, NO, MAX}) Edge.due("what " + what, h.at(0, 0, what), NO);
    h.length(240);
    Edge.due("behind 240", h.at(0, 240, 0), 721);
    Edge.due("behind 241", h.at(0, 241, 0), NO);
    h.length(10);
    Edge.due("behind 11 of ten again", h.at(0, 11, 0), NO);
    SwarmHouse gone = way(60, 1, 0, 800, 0);
    Edge.due("behind the STEP that made it GONE", gone.at(0, 25, 0), 20001);
    Edge.due("it didn't do so many", gone.at(0, 26, 0), NO);
  }

  private static void backs() {
    Edge.says("terms 2", "RETURNS: of its STEPS those from y below 0 to y not below: the x behind each.");
    Edge.due("to 0 at the last STEP", way(10, 5, -10, 1, 1).told(0, 6), 1);
    Edge.due("its x", way(10, 5, -10, 1, 1).back(0, 0), 15);
    Edge.due("not yet", way(10, 5, -11, 1, 1).told(0, 6), 0);
    Edge.due("from 0", way(10, 5, 0, 1, 1).told(0, 6), 0);
    Edge.due("from -1 over 0", way(10, 5, -1, 1, 2).told(0, 6), 1);
    Edge.due("its x", way(10, 5, -1, 1, 2).back(0, 0), 6);
    Edge.due("down", way(10, 5, 5, 1, -1).told(0, 6), 0);
    Edge.due("along below", way(10, 5, -1, 1, 0).told(0, 6), 0);
    Edge.due("of a STEP that made it GONE", way(30, 1, -25, 800, 1).told(0, 6), 1);
    SwarmHouse out = way(30, 1, -25, 800, 1);
    Edge.due("GONE at y 0", out.told(0, 4), 3);
    Edge.due("its x", out.back(0, 0), 20001);
    Edge.says("promise 14", "The x of RETURN k (from 0 on); Integer.MIN_VALUE: there is none such.");
    SwarmHouse h = Edge.with("halo 961 1;");
    h.length(20);
    h.orbit(0, 30, 0, 0);
    h.orbit(0, 30, 0, 0);
    Edge.due("RETURNS", h.told(0, 6), 3);
    for (int k = 0; k < 3; k++) Edge.due("back(1, " + k + ")", h.back(1, k), 0);
    for (int k : new int[] {-1, 3, NO, MAX}) Edge.due("back(1, " + k + ")", h.back(1, k), NO);
    for (int orbit : new int[] {-1, 2, 6, NO, MAX}) Edge.due("back(" + orbit + ", 0)", h.back(orbit, 0), NO);
    h.length(10);
    Edge.due("RETURNS of ten", h.told(0, 6), 2);
    Edge.due("back(0, 2) of ten", h.back(0, 2), NO);
    h.length(240);
    Edge.due("RETURNS of 240", h.told(0, 6), 40);
    Edge.due("back(0, 39)", h.back(0, 39), 0);
    Edge.due("back(0, 40)", h.back(0, 40), NO);
  }

  // ---- promises 15 and 16 ----

  private static void alikes() {
    Edge.says("promise 15", "Whether two ORBITS are ALIKE; false if there are none such.");
    SwarmHouse h = way(25, 100, -20, 0, 10);
    Edge.due("alike(0, 1) of one", h.alike(0, 1), false);
    Edge.due("alike(1, 0) of one", h.alike(1, 0), false);
    for (int orbit : new int[] {-1, 1, 6, NO, MAX}) {
      Edge.due("alike(" + orbit + ", 0)", h.alike(orbit, 0), false);
      Edge.due("alike(0, " + orbit + ")", h.alike(0, orbit), false);
      Edge.due("alike(" + orbit + ", " + orbit + ")", h.alike(orbit, orbit), false);
    }
    Edge.due("alike(0, 0)", h.alike(0, 0), true);
    Edge.says("terms 2", "no farther than 50 from one of the other");
    for (int apart : new int[] {50, 51, -50, -51}) {
      SwarmHouse two = way(25, 100, -20, 0, 10);
      two.orbit(100 + apart, -20, 0, 10);
      Edge.due(apart + " apart", two.alike(0, 1), Math.abs(apart) == 50);
      Edge.due(apart + " apart, the other way", two.alike(1, 0), Math.abs(apart) == 50);
    }
    Edge.says("terms 2", "ALIKE of two ORBITS, neither GONE");
    SwarmHouse gone = way(25, 100, -20, 800, 10);
    gone.orbit(100, -20, 799, 10);
    Edge.due("one is GONE", gone.told(0, 4) == 3 && gone.told(1, 4) == 3, true);
    Edge.due("both GONE", gone.alike(0, 1), false);
    gone.length(24);
    Edge.due("neither GONE", gone.alike(0, 1), true);
    Edge.says("terms 2", "both of one SORT");
    SwarmHouse sorts = way(25, 10, -20, 0, 10);
    sorts.orbit(0, -20, 0, 10);
    sorts.orbit(-10, -20, 0, 10);
    Edge.due("a RING and a LINE", sorts.alike(0, 1), false);
    Edge.due("a RING the other way round", sorts.alike(0, 2), true);
    Edge.due("a LINE", sorts.alike(1, 1), true);
    Edge.says("terms 2", "of the RETURNS of each at least half, and one at least");
    SwarmHouse none = way(25, 10, 20, 0, 10);
    none.orbit(10, -20, 0, 10);
    none.orbit(10, 20, 0, 10);
    Edge.due("none of either", none.alike(0, 2), false);
    Edge.due("none of the one", none.alike(0, 1), false);
    Edge.due("none of the other", none.alike(1, 0), false);
    // RETURNS 0, 0, 0 of each
    SwarmHouse three = Edge.with("halo 961 1;");
    three.length(20);
    three.orbit(0, 30, 0, 0);
    three.orbit(0, 30, 0, 0);
    Edge.due("three of three", three.alike(0, 1), true);
    // RETURNS 11, -96, -6, -41 and -77, -118, -109: near are -96 and -41, and all of the other
    halves("halo 30650 128;", 40, new int[] {-142, 48, 9, -7, 174, -112, 12, -3}, 4, 3, true);
    // RETURNS 79, 36, 38 and -11, -21, 10: near are 36, 38, and 10, -11
    halves("halo 18540 158;", 40, new int[] {119, 50, -10, 2, -42, 82, -15, 14}, 3, 3, true);
    // RETURNS -25, 33, 1, -117, -196 and 52, 46, 55, 70: near are 33, 1, and all of the other
    halves("halo 25325 186;", 60, new int[] {-103, -173, -11, 10, 157, 179, 16, 2}, 5, 4, false);
    // RETURNS 8, 104, 273 and 102: near is 104, and all of the other
    halves("halo 15847 26;", 40, new int[] {-79, -165, -5, -2, 93, 101, 3, 15}, 3, 1, false);
    // RETURNS 250, 62 and 98: near is 62, and all of the other
    halves("halo 57003 17;", 40, new int[] {-116, -35, 19, -14, 61, 179, 8, 18}, 2, 1, true);
  }

  private static void halves(String text, int length, int[] w, int first, int second, boolean want) {
    SwarmHouse h = Edge.with(text);
    h.length(length);
    h.orbit(w[0], w[1], w[2], w[3]);
    h.orbit(w[4], w[5], w[6], w[7]);
    Edge.due("RETURNS of the one", h.told(0, 6), first);
    Edge.due("RETURNS of the other", h.told(1, 6), second);
    Edge.due("ALIKE in " + text, h.alike(0, 1), want);
    Edge.due("ALIKE the other way in " + text, h.alike(1, 0), want);
  }

  private static void tune(int length, int turns, int period, int p, int q, boolean want) {
    int[][] by = {{5, 3, -1, -1}, {5, 5, 0, -1}, {5, 5, 0, 0}, {5, -5, 0, 1}, {5, -3, -1, 1}};
    int[] w = by[turns + 2];
    SwarmHouse h = Edge.with("bar 0 1 " + period + "; bar 0 1 7;");
    h.length(length);
    h.orbit(w[0], w[1], w[2], w[3]);
    Edge.due("TURNS", h.told(0, 3), turns);
    Edge.due("tune " + p + " to " + q + " of LENGTH " + length + ", TURNS " + turns + ", T " + period, h.tune(0, p, q), want);
  }

  private static void tunes() {
    Edge.says("terms 2", "q times TURNS times 2 T is no farther than q times 2 T from p times LENGTH or from that below 0");
    tune(10, 0, 5, 1, 1, true);
    tune(11, 0, 5, 1, 1, false);
    tune(20, 1, 5, 1, 1, true);
    tune(21, 1, 5, 1, 1, false);
    tune(20, -1, 5, 1, 1, true);
    tune(21, -1, 5, 1, 1, false);
    tune(10, 2, 5, 1, 1, true);
    tune(10, 2, 6, 1, 1, false);
    tune(10, -2, 5, 1, 1, true);
    tune(10, -2, 6, 1, 1, false);
    tune(30, 2, 5, 1, 1, true);
    tune(31, 2, 5, 1, 1, false);
    tune(20, 0, 10, 9, 9, true);
    tune(21, 0, 10, 9, 9, false);
    tune(240, 0, 99, 1, 1, false);
    tune(240, 0, 99, 1, 2, true);
    tune(240, 0, 99, 9, 9, false);
    tune(198, 0, 99, 9, 9, true);
    Edge.says("terms 2", "In TUNE p to q (1 .. 9 each) with a bar (the first one told)");
    SwarmHouse h = Edge.with("halo 0 1; bar 0 1 5; bar 0 1 99;");
    h.length(20);
    h.orbit(5, 5, 0, 0);
    Edge.due("by the second it were so", h.tune(0, 1, 1), false);
    Edge.set(h, "bar 0 1 99; bar 0 1 5;");
    Edge.due("by the first it is so", h.tune(0, 1, 1), true);
    Edge.set(h, "halo 0 1; disc 0 1; bar 0 1 99; bar 0 1 1;");
    Edge.due("the first bar, not the first PART", h.tune(0, 1, 1), true);
    Edge.set(h, "disc 0 1;".repeat(7) + "bar 0 1 99;");
    Edge.due("the bar is the eighth PART", h.tune(0, 1, 1), true);
    Edge.set(h, "bar 0 1 99;" + "bar 0 1 5;".repeat(7));
    Edge.due("the first of eight bars", h.tune(0, 1, 1), true);
    Edge.says("promise 16", "Whether an ORBIT is in TUNE; false: no such ones, no bar.");
    Edge.due("9 to 9", h.tune(0, 9, 9), true);
    for (int bad : new int[] {0, 10, -1, NO, MAX}) {
      Edge.due("p " + bad, h.tune(0, bad, 1), false);
      Edge.due("p " + bad + " to 9", h.tune(0, bad, 9), false);
      Edge.due("q " + bad, h.tune(0, 1, bad), false);
      Edge.due("q " + bad + " of 9", h.tune(0, 9, bad), false);
    }
    for (int orbit : new int[] {-1, 1, 6, NO, MAX}) Edge.due("ORBIT " + orbit, h.tune(orbit, 1, 1), false);
    Edge.set(h, "halo 0 1;");
    Edge.due("no bar", h.tune(0, 1, 1), false);
    Edge.due("no bar, with much room", h.tune(0, 1, 9), false);
    Edge.set(h, "");
    Edge.due("no PARTS", h.tune(0, 1, 1), false);
    Edge.due("no PARTS, with much room", h.tune(0, 1, 9), false);
    h.length(10);
    Edge.due("no PARTS, with LENGTH 10", h.tune(0, 1, 9), false);
    Edge.set(h, "disc 0 1; bar 0 1 1;");
    Edge.due("a bar, with LENGTH 10", h.tune(0, 1, 9), true);
  }

  public static void main(String[] args) {
    masses();
    pullEnds();
    pullSpan();
    pullWhole();
    bars();
    stars();
    goes();
    goesOut();
    staysOut();
    lengths();
    orbits();
    orbitsFrom0();
    orbitsOut();
    quarters();
    nearAndFar();
    sorts();
    toldEnds();
    uses();
    fieldAfterField();
    values();
    places();
    backs();
    alikes();
    tunes();
    Edge.end();
  }
}
