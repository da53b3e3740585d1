/** The boundary cases of CELLS, SHARES, NOTES, WEIGHTS, FITS and QUARREL: promises 17 to 25, and part 3 of the terms. */
public final class SightEdgesTest {
  private static final int NO = Edge.NO;
  private static final int MAX = Edge.MAX;

  /** ORBITS that stay in the CELLS 0, 15, 5, 3, 12 and 10 (as many of these as are asked for), with LENGTH 10. */
  private static SwarmHouse resting(int orbits) {
    int[][] at = {{-900, -900}, {900, 900}, {-100, -100}, {900, -900}, {-900, 900}, {100, 100}};
    SwarmHouse h = new SwarmHouse();
    h.length(10);
    for (int i = 0; i < orbits; i++) Edge.rest(h, at[i][0], at[i][1]);
    return h;
  }

  // ---- promise 17 ----

  private static void skyIs(SwarmHouse h, int g, int r, int cell) {
    Edge.due("G", h.count(8), g);
    Edge.due("R", h.count(9), r);
    for (int c = 0; c < 64; c++) Edge.due("SHARE in CELL " + c + " of " + g + ", " + r, h.share(0, c, 0), c == cell ? 10 : 0);
  }

  private static void skies() {
    Edge.says("terms 3", "4 at first; 1000 at first");
    SwarmHouse h = new SwarmHouse();
    h.length(10);
    h.orbit(7, -8, 0, 0);
    skyIs(h, 4, 1000, 6);
    Edge.says("promise 17", "CELLS: true; false: no such ones.");
    for (int bad : new int[] {1, 9, 0, -1, -2, NO, MAX}) {
      Edge.due("cells(" + bad + ", 8)", h.cells(bad, 8), false);
      skyIs(h, 4, 1000, 6);
    }
    for (int bad : new int[] {7, 20001, 0, -1, -8, NO, MAX}) {
      Edge.due("cells(2, " + bad + ")", h.cells(2, bad), false);
      skyIs(h, 4, 1000, 6);
    }
    int[][] ends = {{2, 8, 1}, {8, 8, 7}, {2, 20000, 1}, {8, 20000, 28}, {3, 9, 2}, {7, 19999, 24}};
    for (int[] e : ends) {
      Edge.due("cells(" + e[0] + ", " + e[1] + ")", h.cells(e[0], e[1]), true);
      skyIs(h, e[0], e[1], e[2]);
    }
    Edge.due("one is wrong", h.cells(2, 7), false);
    skyIs(h, 7, 19999, 24);
    Edge.due("the other is", h.cells(9, 20000), false);
    skyIs(h, 7, 19999, 24);
  }

  /** Where an ORBIT that stays at x, y is: the column by x is also the row by y. */
  private static void column(int g, int r, int x, int column) {
    for (int c = 0; c < 64; c++) {
      SwarmHouse h = new SwarmHouse();
      h.length(10);
      h.cells(g, r);
      Edge.rest(h, x, -r < -9999 ? -1 : -r);
      Edge.rest(h, -r < -9999 ? -1 : -r, x);
      int low = -r < -9999 ? (r - 1) * g / (2 * r) : 0;
      Edge.due("x " + x + " of " + g + ", " + r + " in CELL " + c, h.share(0, c, 0), column >= 0 && c == g * low + column ? 10 : 0);
      Edge.due("y " + x + " of " + g + ", " + r + " in CELL " + c, h.share(1, c, 0), column >= 0 && c == g * column + low ? 10 : 0);
    }
  }

  private static void columns() {
    Edge.says("terms 3", "over -R .. R - 1; none elsewhere");
    for (int g : new int[] {2, 5, 8}) {
      for (int r : new int[] {8, 1000, 9998}) {
        column(g, r, -r - 1, -1);
        for (int far : new int[] {-9999, -r - r / g - 1, r + 1, r + r / g, 9999}) {
          if ((far < -r || far >= r) && far >= -9999 && far <= 9999) column(g, r, far, -1);
        }
        column(g, r, -r, 0);
        column(g, r, r - 1, g - 1);
        column(g, r, r, -1);
      }
    }
    Edge.says("terms 3", "the column is how often 2 R has room in (x + R) G, the row likewise");
    column(2, 8, -1, 0);
    column(2, 8, 0, 1);
    column(4, 1000, -501, 0);
    column(4, 1000, -500, 1);
    column(4, 1000, 499, 2);
    column(4, 1000, 500, 3);
    // 2000 by 3: 666 times 3 is 1998, 667 times 3 is 2001; 1333 times 3 is 3999
    column(3, 1000, -334, 0);
    column(3, 1000, -333, 1);
    column(3, 1000, 333, 1);
    column(3, 1000, 334, 2);
    // 16 by 7: 2 times 7 is 14, 3 times 7 is 21
    column(7, 8, -6, 0);
    column(7, 8, -5, 1);
    for (int x = -8; x < 8; x++) column(8, 8, x, (x + 8) / 2);
    // 40000 by 3: 13333 times 3 is 39999
    column(3, 20000, -6667, 0);
    column(3, 20000, -6666, 1);
    column(3, 20000, 6666, 1);
    column(3, 20000, 6667, 2);
  }

  /** The greatest R, where only an ORBIT that goes there can tell: LENGTH 11, by 999 a STEP. */
  private static void farthest() {
    Edge.says("terms 3", "over -R .. R - 1 (R 8 .. 20000)");
    int[][] ways = {{9010, 11, 1}, {9011, 10, 1}, {-9011, 11, -1}, {-9012, 10, -1}};
    for (int[] w : ways) {
      SwarmHouse h = new SwarmHouse();
      h.length(11);
      h.cells(2, 20000);
      h.orbit(w[0], 0, 999 * w[2], 0);
      h.orbit(0, w[0], 0, 999 * w[2]);
      Edge.due("SHARE of x from " + w[0], h.share(0, w[2] > 0 ? 3 : 2, 0), w[1]);
      Edge.due("SHARE of y from " + w[0], h.share(1, w[2] > 0 ? 3 : 1, 0), w[1]);
      Edge.due("STEPS", h.told(0, 0), 11);
    }
  }

  // ---- promise 18 ----

  private static void shares() {
    Edge.says("terms 3", "SHARE of an ORBIT in a CELL: at how many of its places behind a STEP it is there; GOING: the sum of u there.");
    SwarmHouse h = new SwarmHouse();
    h.length(10);
    h.cells(2, 1000);
    h.orbit(-1, 0, 1, 0);
    Edge.due("not at the start", h.share(0, 2, 0), 0);
    Edge.due("behind each STEP", h.share(0, 3, 0), 10);
    h.orbit(-2, 0, 1, 0);
    Edge.due("behind the first STEP", h.share(1, 2, 0), 1);
    Edge.due("behind the others", h.share(1, 3, 0), 9);
    h.orbit(-10, 0, 1, 0);
    Edge.due("behind the last STEP", h.share(2, 3, 0), 1);
    Edge.due("GOING of one", h.share(2, 3, 1), 1);
    h.orbit(-11, 0, 1, 0);
    Edge.due("not beyond the last STEP", h.share(3, 3, 0), 0);
    Edge.due("GOING of none", h.share(3, 3, 1), 0);
    Edge.due("GOING of all", h.share(3, 2, 1), 10);
    // px is 1 all the way, so u behind a STEP is its number: places -5, -3, 0, 4 and so on
    SwarmHouse faster = Edge.with("heap 5000 0 7500 1;");
    faster.length(10);
    faster.cells(2, 1000);
    faster.orbit(-6, 0, 0, 0);
    Edge.due("SHARE of the left", faster.share(0, 2, 0), 2);
    Edge.due("GOING of the left, u behind the STEP", faster.share(0, 2, 1), 3);
    Edge.due("SHARE of the right", faster.share(0, 3, 0), 8);
    Edge.due("GOING of the right", faster.share(0, 3, 1), 52);
    Edge.due("v doesn't count", resting(1).share(0, 0, 1), 0);
    SwarmHouse most = new SwarmHouse();
    most.length(240);
    most.cells(2, 20000);
    most.orbit(-9999, 0, 1, 999);
    most.orbit(-9999, -9999, 83, 0);
    Edge.due("SHARE of 240 at one side", most.share(1, 0, 0) + most.share(1, 1, 0), 240);
    Edge.due("GOING of it", most.share(1, 0, 1) + most.share(1, 1, 1), 83 * 240);
    Edge.due("the place where it is GONE is nowhere", most.share(0, 2, 0), most.told(0, 0) - 1);
  }

  private static void shareEnds() {
    Edge.says("promise 18", "SHARE (what 0), GOING (1) of an ORBIT in a CELL 0 .. 63; Integer.MIN_VALUE: no such ones.");
    SwarmHouse h = new SwarmHouse();
    Edge.due("of no ORBIT", h.share(0, 0, 0), NO);
    h.length(10);
    h.cells(8, 8);
    h.orbit(-8, -8, 0, 0);
    h.orbit(7, 7, 0, 0);
    h.orbit(-3, 6, 1, 0);
    Edge.due("CELL 0", h.share(0, 0, 0), 10);
    Edge.due("CELL 63", h.share(1, 63, 0), 10);
    Edge.due("GOING in CELL 63", h.share(2, 63, 1), 2);
    for (int what = 0; what < 2; what++) {
      for (int cell : new int[] {-1, 64, NO, MAX}) Edge.due("CELL " + cell, h.share(0, cell, what), NO);
      for (int orbit : new int[] {-1, 3, 5, 6, NO, MAX}) Edge.due("ORBIT " + orbit, h.share(orbit, 0, what), NO);
    }
    for (int what : new int[] {-1, 2, NO, MAX}) Edge.due("what " + what, h.share(0, 0, what), NO);
    h.cells(2, 8);
    for (int cell = 4; cell < 64; cell++) {
      Edge.due("SHARE beyond G by G", h.share(1, cell, 0), 0);
      Edge.due("GOING beyond G by G", h.share(2, cell, 1), 0);
    }
    Edge.due("CELL 64 beyond G by G", h.share(1, 64, 0), NO);
  }

  // ---- promise 19 ----

  private static void portions() {
    Edge.says("terms 3", "PORTIONS (1 .. 10; 6 at first)");
    SwarmHouse h = resting(2);
    Edge.due("at first", h.count(10), 6);
    Edge.due("FITS of six", h.fits(0), 7);
    Edge.says("promise 19", "PORTIONS: true; false: no such number.");
    for (int n : new int[] {0, 11, -1, NO, MAX}) {
      Edge.due("portions(" + n + ")", h.portions(n), false);
      Edge.due("they stay", h.count(10), 6);
      Edge.due("and their FITS", h.fits(0), 7);
    }
    for (int n = 1; n <= 10; n++) {
      Edge.due("portions(" + n + ")", h.portions(n), true);
      Edge.due("they are", h.count(10), n);
      Edge.due("FITS of " + n, h.fits(0), n + 1);
      Edge.due("all together", h.weight(0, 0, 0), n);
    }
  }

  // ---- promises 20 and 21 ----

  private static void refused(SwarmHouse h, int kind, int cell, int low, int high) {
    int notes = h.count(2);
    int found = h.fits(notes);
    Edge.due("sight(" + kind + ", " + cell + ", " + low + ", " + high + ")", h.sight(kind, cell, low, high), -1);
    Edge.due("NOTES behind it", h.count(2), notes);
    Edge.due("FITS behind it", h.fits(notes), found);
    Edge.due("none came", h.fits(notes + 1), -1);
  }

  private static void taken(int kind, int cell, int low, int high) {
    SwarmHouse h = resting(2);
    Edge.due("sight(" + kind + ", " + cell + ", " + low + ", " + high + ")", h.sight(kind, cell, low, high), 0);
    Edge.due("NOTES", h.count(2), 1);
  }

  private static void sights() {
    Edge.says("promise 20", "NONE: it can't be (LOW is above HIGH, too)");
    SwarmHouse h = resting(2);
    h.sight(0, 0, 1, 1000);
    for (int kind : new int[] {-1, 2, 3, NO, MAX}) refused(h, kind, 0, 0, 0);
    for (int cell : new int[] {-1, 64, NO, MAX}) {
      refused(h, 0, cell, 0, 0);
      refused(h, 1, cell, 0, 0);
    }
    for (int bad : new int[] {-1, 1001, NO, MAX}) {
      refused(h, 0, 0, bad, bad);
      refused(h, 0, 0, Math.min(bad, 5), Math.max(bad, 5));
    }
    for (int bad : new int[] {-10000, 10000, NO, MAX}) {
      refused(h, 1, 0, bad, bad);
      refused(h, 1, 0, Math.min(bad, 5), Math.max(bad, 5));
    }
    refused(h, 0, 0, 6, 5);
    refused(h, 0, 0, 1000, 0);
    refused(h, 1, 0, 6, 5);
    refused(h, 1, 0, -5, -6);
    refused(h, 1, 0, 9999, -9999);
    for (int kind = 0; kind < 2; kind++) {
      for (int cell : new int[] {0, 1, 62, 63}) taken(kind, cell, 0, 0);
      taken(kind, 0, 5, 5);
      taken(kind, 0, 0, 1);
    }
    taken(0, 0, 0, 1000);
    taken(0, 0, 0, 0);
    taken(0, 0, 1000, 1000);
    taken(1, 0, -9999, 9999);
    taken(1, 0, -9999, -9999);
    taken(1, 0, 9999, 9999);
  }

  private static void tenNotes() {
    Edge.says("promise 20", "A SIGHT: its number; or there are 10 NOTES.");
    for (int kind = 0; kind < 2; kind++) {
      SwarmHouse h = resting(2);
      for (int i = 0; i < 10; i++) Edge.due("sight " + i, h.sight(kind, 0, 0, i), i);
      refused(h, 0, 0, 0, 0);
      refused(h, 1, 0, 0, 0);
      Edge.due("a STRIKE behind ten", h.strike(0), -1);
      Edge.due("NOTES", h.count(2), 10);
      Edge.due("FITS by ten", h.fits(10) >= 0, true);
      Edge.due("FITS by eleven", h.fits(11), -1);
    }
    Edge.says("promise 21", "A NOTE is STRUCK: this NOTE's number; NONE: no such one, or there are 10.");
    SwarmHouse h = resting(2);
    for (int note : new int[] {0, -1, 1, NO, MAX}) Edge.due("strike(" + note + ") of none", h.strike(note), -1);
    h.sight(0, 0, 1000, 1000);
    for (int i = 1; i < 10; i++) {
      for (int note : new int[] {-1, i, i + 1, 10, NO, MAX}) {
        Edge.due("strike(" + note + ") of " + i, h.strike(note), -1);
        Edge.due("NOTES behind it", h.count(2), i);
      }
      Edge.due("FITS behind it", h.fits(i), i == 1 ? 1 : 7);
      Edge.due("strike " + i, h.strike(0), i);
    }
    for (int note = 0; note < 11; note++) Edge.due("an eleventh", h.strike(note), -1);
    Edge.due("NOTES", h.count(2), 10);
    Edge.due("a SIGHT behind ten", h.sight(0, 0, 0, 0), -1);
  }

  private static void known() {
    Edge.says("terms 3", "As KNOWN by n: the first n NOTES, without those STRUCK by one of these");
    SwarmHouse h = resting(2);
    h.sight(0, 0, 1000, 1000);
    h.sight(0, 15, 1000, 1000);
    h.strike(0);
    int[] want = {7, 1, 0, 1};
    for (int n = 0; n < want.length; n++) Edge.due("FITS by " + n, h.fits(n), want[n]);
    Edge.due("by the one that is left", h.weight(3, 0, 1), 6);
    Edge.due("by the one before", h.weight(1, 0, 0), 6);
    Edge.says("terms 3", "(a STRIKE may be STRUCK: then it doesn't count; asked from the last one on)");
    SwarmHouse chain = resting(2);
    chain.sight(0, 0, 1000, 1000);
    for (int i = 1; i < 10; i++) chain.strike(i - 1);
    Edge.due("by none", chain.fits(0), 7);
    for (int n = 1; n <= 10; n++) Edge.due("a chain by " + n, chain.fits(n), n % 2 == 1 ? 1 : 7);
    SwarmHouse both = resting(2);
    both.sight(0, 0, 1000, 1000);
    both.strike(0);
    both.strike(0);
    both.strike(1);
    Edge.due("one of two STRIKES is STRUCK", both.fits(4), 7);
    both.strike(2);
    Edge.due("both are", both.fits(5), 1);
    both.strike(3);
    Edge.due("the STRIKE of the first is", both.fits(6), 7);
    both.strike(5);
    Edge.due("not any more", both.fits(7), 1);
    SwarmHouse back = resting(2);
    back.sight(0, 0, 1000, 1000);
    back.strike(0);
    back.sight(0, 15, 1000, 1000);
    back.strike(2);
    back.strike(1);
    Edge.due("a SIGHT holds again", back.fits(5), 1);
    Edge.due("it is the first", back.weight(5, 0, 0), 6);
    back.strike(4);
    Edge.due("and again not", back.fits(6), 7);
  }

  // ---- terms 3: when a SIGHT holds ----

  private static void holds(SwarmHouse h, int kind, int cell, int low, int high, boolean want) {
    int n = h.sight(kind, cell, low, high);
    Edge.due("a SIGHT " + kind + " of CELL " + cell + " at " + low + " .. " + high, h.fits(n + 1), want ? 1 : 0);
    h.strike(n);
  }

  /** An ORBIT with a SHARE of 9 in CELL 2 and of 1 in CELL 3, with all PORTIONS. */
  private static SwarmHouse across(int portions) {
    SwarmHouse h = new SwarmHouse();
    h.length(10);
    h.cells(2, 1000);
    h.portions(portions);
    h.orbit(-10, 0, 1, 0);
    return h;
  }

  private static void lightHolds() {
    Edge.says("terms 3", "A SIGHT of LIGHT holds if 1000 times that is at least LOW, at most HIGH times PORTIONS and LENGTH");
    for (int portions : new int[] {1, 7, 10}) {
      holds(across(portions), 0, 2, 900, 900, true);
      holds(across(portions), 0, 2, 900, 1000, true);
      holds(across(portions), 0, 2, 901, 1000, false);
      holds(across(portions), 0, 2, 0, 900, true);
      holds(across(portions), 0, 2, 0, 899, false);
      holds(across(portions), 0, 3, 100, 100, true);
      holds(across(portions), 0, 3, 101, 1000, false);
      holds(across(portions), 0, 3, 0, 99, false);
      holds(across(portions), 0, 0, 0, 0, true);
      holds(across(portions), 0, 0, 1, 1000, false);
    }
    holds(resting(1), 0, 0, 1000, 1000, true);
    holds(resting(1), 0, 0, 0, 999, false);
    int[][] ends = {{166, 1000, 6}, {167, 1000, 5}, {0, 167, 2}, {0, 166, 1}, {166, 167, 1}, {167, 332, 0}, {167, 333, 0}, {333, 334, 1}, {500, 500, 1}, {501, 666, 0}, {1000, 1000, 1}, {0, 0, 1}, {0, 1000, 7}};
    for (int[] e : ends) {
      SwarmHouse h = resting(2);
      h.sight(0, 0, e[0], e[1]);
      Edge.due("FITS by a SIGHT at " + e[0] + " .. " + e[1] + " in sixths", h.fits(1), e[2]);
    }
    int[][] fifths = {{200, 1000, 5}, {201, 1000, 4}, {0, 200, 2}, {0, 199, 1}};
    for (int[] e : fifths) {
      SwarmHouse h = resting(2);
      h.portions(5);
      h.sight(0, 0, e[0], e[1]);
      Edge.due("FITS by a SIGHT at " + e[0] + " .. " + e[1] + " in fifths", h.fits(1), e[2]);
    }
    // it is GONE behind 11 STEPS and in a CELL behind 10: LENGTH counts, not the STEPS done
    for (int[] e : new int[][] {{20, 500}, {25, 400}, {40, 250}}) {
      for (int off = -1; off <= 1; off++) {
        SwarmHouse h = new SwarmHouse();
        h.cells(2, 20000);
        h.length(e[0]);
        h.orbit(9999, 0, 999, 0);
        h.sight(0, 3, e[1] + off, e[1] + off);
        Edge.due("LENGTH " + e[0] + ", " + (e[1] + off), h.fits(1), off == 0 ? 1 : 0);
      }
    }
  }

  private static SwarmHouse goings(int portions, int... speeds) {
    SwarmHouse h = new SwarmHouse();
    h.length(10);
    h.cells(2, 20000);
    h.portions(portions);
    for (int u : speeds) h.orbit(0, 0, u, 0);
    return h;
  }

  private static void goingHolds() {
    Edge.says("terms 3", "one of GOING if the sum of WEIGHT times GOING is at least LOW and at most HIGH times LIGHT");
    for (int portions : new int[] {1, 10}) {
      holds(goings(portions, 5), 1, 3, 5, 5, true);
      holds(goings(portions, 5), 1, 3, 6, 9999, false);
      holds(goings(portions, 5), 1, 3, -9999, 4, false);
      holds(goings(portions, -5), 1, 2, -5, -5, true);
      holds(goings(portions, -5), 1, 2, -4, 9999, false);
      holds(goings(portions, -5), 1, 2, -9999, -6, false);
      holds(goings(portions, 0), 1, 3, 0, 0, true);
      holds(goings(portions, 0), 1, 3, 1, 9999, false);
      holds(goings(portions, 0), 1, 3, -9999, -1, false);
    }
    // by 1 and 1 the sum is 90 with LIGHT 20
    int[][] ends = {{4, 5, 1}, {5, 5, 0}, {4, 4, 0}, {3, 5, 2}, {4, 6, 2}, {3, 6, 3}, {7, 99, 0}, {-9, 2, 0}};
    for (int[] e : ends) {
      SwarmHouse h = goings(2, 6, 3);
      h.sight(1, 3, e[0], e[1]);
      Edge.due("FITS by GOING at " + e[0] + " .. " + e[1], h.fits(1), e[2]);
    }
    SwarmHouse dark = goings(3, 7);
    for (int end : new int[] {-9999, 0, 9999}) holds(dark, 1, 0, end, end, true);
    Edge.says("terms 3", "(A SIGHT of a CELL beyond G by G: SHARES are 0.)");
    for (int cell : new int[] {4, 5, 62, 63}) {
      holds(goings(2, 5), 0, cell, 0, 0, true);
      holds(goings(2, 5), 0, cell, 1, 1000, false);
      holds(goings(2, 5), 1, cell, 9999, 9999, true);
      holds(goings(2, 5), 1, cell, -9999, -9999, true);
    }
    SwarmHouse last = new SwarmHouse();
    last.length(10);
    last.cells(8, 8);
    Edge.rest(last, 7, 7);
    holds(last, 0, 63, 1000, 1000, true);
    last.cells(7, 8);
    Edge.due("the same SIGHT of fewer CELLS", last.fits(1), 0);
    Edge.due("there is no LIGHT in it", last.range(0, 1, 63, true), 0);
  }

  // ---- promises 22 to 24 ----

  private static void fits() {
    Edge.says("terms 3", "WEIGHTS: a whole number 0 or more for each ORBIT that is USED, all together PORTIONS");
    int[] ofTen = {0, 1, 11, 66, 286, 1001, 3003};
    int[] ofOne = {0, 1, 2, 3, 4, 5, 6};
    for (int orbits = 0; orbits <= 6; orbits++) {
      SwarmHouse h = resting(orbits);
      h.portions(10);
      Edge.due("ten PORTIONS to " + orbits, h.fits(0), ofTen[orbits]);
      h.portions(1);
      Edge.due("one PORTION to " + orbits, h.fits(0), ofOne[orbits]);
    }
    Edge.says("terms 3", "by numbers (that of ORBIT 0 first, the greater ahead, then of 1, and so on)");
    SwarmHouse h = resting(6);
    h.portions(10);
    int[][] at = {{0, 10, 0, 0, 0, 0, 0}, {1, 9, 1, 0, 0, 0, 0}, {2, 9, 0, 1, 0, 0, 0}, {5, 9, 0, 0, 0, 0, 1}, {6, 8, 2, 0, 0, 0, 0}, {7, 8, 1, 1, 0, 0, 0},
      {3001, 0, 0, 0, 0, 1, 9}, {3002, 0, 0, 0, 0, 0, 10}};
    for (int[] w : at) {
      for (int i = 0; i < 6; i++) Edge.due("weight(0, " + w[0] + ", " + i + ")", h.weight(0, w[0], i), w[i + 1]);
    }
    for (int k : new int[] {3003, 3004, -1, NO, MAX, 1000000}) Edge.due("k " + k, h.weight(0, k, 0), -1);
    Edge.says("terms 3", "(Without ORBITS that are USED there are none.)");
    for (String use : new String[] {"use 0;", "use 1 / 0;", "use sort = 3;"}) {
      SwarmHouse none = resting(6);
      Edge.set(none, use);
      Edge.due("FITS by " + use, none.fits(0), 0);
      Edge.due("weight by " + use, none.weight(0, 0, 0), -1);
      Edge.due("range by " + use, none.range(0, 0, 0, true), -1);
      Edge.due("range of LIGHT by " + use, none.range(0, 1, 0, false), -1);
      Edge.set(none, "");
      Edge.due("FITS without it", none.fits(0), 462);
    }
    Edge.says("promise 22", "FITS as KNOWN by n: how many; NONE: no such n.");
    SwarmHouse two = resting(2);
    for (int n : new int[] {1, -1, NO, MAX}) Edge.due("fits(" + n + ") of none", two.fits(n), -1);
    Edge.due("fits(0) of none", two.fits(0), 7);
    for (int i = 1; i <= 10; i++) {
      two.sight(0, 0, 100 * i - 100, 1000);
      Edge.due("fits(" + i + ")", two.fits(i) >= 0, true);
      for (int n : new int[] {i + 1, 11, -1, NO, MAX}) Edge.due("fits(" + n + ") of " + i, two.fits(n), -1);
    }
    Edge.due("fits(0) of ten", two.fits(0), 7);
  }

  private static void weights() {
    Edge.says("promise 23", "WEIGHT of an ORBIT in the k-th of FITS as KNOWN by n (0 if it isn't USED); NONE: no such ones.");
    SwarmHouse h = resting(3);
    Edge.set(h, "use near < 90000;");
    Edge.due("USED", h.told(0, 7) + h.told(1, 7) + h.told(2, 7), 1);
    Edge.due("it has all", h.weight(0, 0, 2), 6);
    Edge.due("not USED", h.weight(0, 0, 0), 0);
    Edge.due("not USED, either", h.weight(0, 0, 1), 0);
    Edge.due("no second one", h.weight(0, 1, 0), -1);
    for (int orbit : new int[] {-1, 3, 5, 6, NO, MAX}) Edge.due("ORBIT " + orbit, h.weight(0, 0, orbit), -1);
    for (int n : new int[] {-1, 1, NO, MAX}) Edge.due("n " + n, h.weight(n, 0, 2), -1);
    for (int k : new int[] {-1, 1, NO, MAX}) Edge.due("k " + k, h.weight(0, k, 2), -1);
    Edge.set(h, "");
    h.sight(0, 15, 500, 500);
    // 3 of 6 to ORBIT 1, the rest to 0 and 2
    int[][] want = {{3, 3, 0}, {2, 3, 1}, {1, 3, 2}, {0, 3, 3}};
    for (int k = 0; k < 4; k++) {
      for (int i = 0; i < 3; i++) Edge.due("weight(1, " + k + ", " + i + ")", h.weight(1, k, i), want[k][i]);
    }
    Edge.due("k 4 by one NOTE", h.weight(1, 4, 0), -1);
    Edge.due("k 4 by none", h.weight(0, 4, 0), 4);
    Edge.due("n 2", h.weight(2, 0, 0), -1);
    h.sight(0, 15, 501, 666);
    Edge.due("there are none", h.weight(2, 0, 0), -1);
    Edge.due("no ORBIT at all", new SwarmHouse().weight(0, 0, 0), -1);
  }

  private static void ranges() {
    Edge.says("promise 24", "Over FITS as KNOWN by n the least (most false) or the greatest of what 0: WEIGHT of ORBIT i, 1: LIGHT of CELL i.");
    SwarmHouse h = resting(3);
    h.sight(0, 0, 500, 900);
    int[][] want = {{0, 0, 3, 5}, {0, 1, 0, 3}, {0, 2, 0, 3}, {1, 0, 30, 50}, {1, 15, 0, 30}, {1, 5, 0, 30}, {1, 1, 0, 0}, {1, 63, 0, 0}};
    for (int[] w : want) {
      Edge.due("range(1, " + w[0] + ", " + w[1] + ", false)", h.range(1, w[0], w[1], false), w[2]);
      Edge.due("range(1, " + w[0] + ", " + w[1] + ", true)", h.range(1, w[0], w[1], true), w[3]);
    }
    Edge.due("by none the most", h.range(0, 0, 0, true), 6);
    Edge.set(h, "use near = 20000;");
    Edge.due("the least of one that isn't USED", h.range(0, 0, 0, false), 0);
    Edge.due("the greatest of it", h.range(0, 0, 0, true), 0);
    Edge.due("the least of the one that is", h.range(0, 0, 2, false), 6);
    SwarmHouse six = resting(6);
    six.sight(0, 10, 500, 900);
    for (int cell : new int[] {0, 15, 5, 3, 12}) Edge.due("of six the most LIGHT of CELL " + cell, six.range(1, 1, cell, true), 30);
    Edge.due("of six the most LIGHT of the last one's CELL", six.range(1, 1, 10, true), 50);
    Edge.due("the least of it", six.range(1, 1, 10, false), 30);
    Edge.due("the greatest WEIGHT of the last one", six.range(1, 0, 5, true), 5);
    Edge.says("promise 24", "NONE: no such n, what, ORBIT, CELL (0 .. 63), or there are none.");
    Edge.due("there are none", h.range(1, 0, 2, true), -1);
    Edge.due("there is no LIGHT of none", h.range(1, 1, 5, false), -1);
    Edge.set(h, "");
    SwarmHouse last = new SwarmHouse();
    last.length(10);
    last.cells(8, 8);
    Edge.rest(last, 7, 7);
    Edge.due("LIGHT of CELL 63", last.range(0, 1, 63, true), 60);
    for (boolean most : new boolean[] {false, true}) {
      for (int n : new int[] {-1, 2, NO, MAX}) {
        Edge.due("n " + n, h.range(n, 0, 0, most), -1);
        Edge.due("n " + n + " of LIGHT", h.range(n, 1, 0, most), -1);
      }
      for (int what : new int[] {-1, 2, NO, MAX}) Edge.due("what " + what, h.range(1, what, 0, most), -1);
      for (int orbit : new int[] {-1, 3, 6, NO, MAX}) Edge.due("ORBIT " + orbit, h.range(1, 0, orbit, most), -1);
      for (int cell : new int[] {-1, 64, NO, MAX}) Edge.due("CELL " + cell, h.range(1, 1, cell, most), -1);
      Edge.due("no ORBITS", new SwarmHouse().range(0, 1, 0, most), -1);
    }
  }

  // ---- promise 25 ----

  private static void quarrels() {
    Edge.says("promise 25", "QUARREL as KNOWN by n (bits); 0: there are FITS, or no ORBIT is USED; NONE: no such n.");
    SwarmHouse none = new SwarmHouse();
    none.sight(0, 0, 1, 1000);
    Edge.due("no ORBIT", none.quarrel(1), 0);
    SwarmHouse h = resting(3);
    Edge.due("FITS by none", h.quarrel(0), 0);
    for (int n : new int[] {-1, 1, NO, MAX}) Edge.due("quarrel(" + n + ") of none", h.quarrel(n), -1);
    h.sight(0, 0, 500, 1000);
    h.sight(0, 15, 501, 1000);
    Edge.due("FITS by one", h.quarrel(1), 0);
    Edge.due("a quarrel of two", h.quarrel(2), 3);
    for (int n : new int[] {-1, 3, NO, MAX}) Edge.due("quarrel(" + n + ") of two", h.quarrel(n), -1);
    h.strike(1);
    Edge.due("one is STRUCK", h.quarrel(3), 0);
    Edge.due("not yet", h.quarrel(2), 3);
    Edge.set(h, "use 0;");
    Edge.due("no ORBIT is USED", h.quarrel(2), 0);
    Edge.set(h, "use 1/0;");
    Edge.due("nor with an ERROR", h.quarrel(2), 0);
    SwarmHouse ten = resting(2);
    for (int i = 0; i < 9; i++) ten.sight(0, 0, i, 1000);
    Edge.due("FITS by nine", ten.quarrel(9), 0);
    ten.sight(0, 1, 1, 1000);
    Edge.due("the tenth alone", ten.quarrel(10), 512);
    Edge.due("eleven", ten.quarrel(11), -1);
    SwarmHouse first = resting(2);
    first.sight(0, 1, 1, 1000);
    first.sight(0, 0, 500, 1000);
    Edge.due("the first alone", first.quarrel(1), 1);
    Edge.due("the first with another", first.quarrel(2), 1);
    // what held together is not held against what changes then
    SwarmHouse changed = resting(2);
    changed.sight(0, 0, 400, 1000);
    changed.sight(0, 15, 400, 1000);
    Edge.due("together by six", changed.quarrel(2), 0);
    changed.portions(1);
    Edge.due("not by one", changed.quarrel(2), 3);
    changed.portions(2);
    Edge.due("by two", changed.quarrel(2), 0);
    Edge.set(changed, "use near = 0;");
    changed.cells(2, 8);
    changed.orbit(0, 0, 0, 0);
    Edge.due("each alone fails by another ORBIT", changed.quarrel(2), 1);
    Edge.due("the first, too", changed.quarrel(1), 1);
  }

  private static void fewest() {
    Edge.says("terms 3", "the fewest SIGHTS (as KNOWN) that hold together by no WEIGHTS, of several the least bits by their numbers");
    SwarmHouse h = resting(3);
    h.sight(0, 0, 600, 1000);
    h.sight(0, 15, 300, 1000);
    h.sight(0, 15, 0, 200);
    h.sight(0, 0, 0, 500);
    Edge.due("of two pairs the least bits", h.quarrel(4), 6);
    h.strike(1);
    Edge.due("the other pair", h.quarrel(5), 9);
    h.sight(0, 5, 1, 1);
    Edge.due("one alone is fewer", h.quarrel(6), 32);
    h.sight(0, 5, 2, 2);
    Edge.due("of two alone the least bits", h.quarrel(7), 32);
    h.strike(5);
    Edge.due("the other alone", h.quarrel(8), 64);
    h.strike(6);
    Edge.due("the pair again", h.quarrel(9), 9);
    // three that hold two by two
    SwarmHouse three = resting(3);
    three.sight(0, 0, 334, 1000);
    three.sight(0, 15, 334, 1000);
    three.sight(0, 5, 333, 1000);
    Edge.due("three by two sixths each and more", three.quarrel(3), 7);
    Edge.due("two of them", three.quarrel(2), 0);
    three.sight(0, 15, 0, 333);
    Edge.due("two are fewer than three", three.quarrel(4), 10);
    // six that want two of ten each hold five by five
    SwarmHouse six = resting(6);
    six.portions(10);
    int[] cells = {0, 15, 5, 3, 12, 10};
    for (int cell : cells) six.sight(0, cell, 101, 1000);
    Edge.due("five of six", six.quarrel(5), 0);
    Edge.due("six", six.quarrel(6), 63);
    six.sight(0, 1, 0, 1000);
    Edge.due("one that always holds is not of it", six.quarrel(7), 63);
    six.sight(1, 0, -1, 1);
    six.sight(1, 0, 1, 1);
    Edge.due("GOING, too", six.quarrel(9), 257);
  }

  public static void main(String[] args) {
    skies();
    columns();
    farthest();
    shares();
    shareEnds();
    portions();
    sights();
    tenNotes();
    known();
    lightHolds();
    goingHolds();
    fits();
    weights();
    ranges();
    quarrels();
    fewest();
    Edge.end();
  }
}
