/** Each promise of the document by its number, with answers worked out by hand. */
public final class PromisesTest {
  private static final int NO = Integer.MIN_VALUE;
  private static int wrong = 0;
  private static int promise = 0;

  private static void due(String what, long got, long want) {
    if (got != want) {
      wrong++;
      System.out.println("promise " + promise + ": " + what + " answered " + got + ", due is " + want);
    }
  }

  private static void due(String what, boolean got, boolean want) { due(what, got ? 1 : 0, want ? 1 : 0); }

  /** Feeds a text with blanks behind it up to whole twenties. */
  private static void feed(SwarmHouse h, String text) {
    StringBuilder padded = new StringBuilder(text);
    while (padded.length() % 20 != 0) padded.append(' ');
    for (int at = 0; at < padded.length(); at += 20) {
      int[] n = new int[5];
      for (int i = 0; i < 20; i++) n[i / 4] = n[i / 4] << 8 | padded.charAt(at + i) & 255;
      h.feed(n[0], n[1], n[2], n[3], n[4]);
    }
  }

  private static int tell(SwarmHouse h, String text) {
    feed(h, text);
    return h.field(text.length());
  }

  private static SwarmHouse with(String text) {
    SwarmHouse h = new SwarmHouse();
    int parts = tell(h, text);
    if (parts < 0) due("field of " + text, parts, 0);
    return h;
  }

  private static void newObject() {
    promise = 1;
    SwarmHouse h = new SwarmHouse();
    int[] first = {0, 0, 0, 0, 0, 0, 0, 60, 4, 1000, 6};
    for (int what = 0; what < first.length; what++) due("count(" + what + ")", h.count(what), first[what]);
    due("fault(0)", h.fault(0), 0);
    due("fault(1)", h.fault(1), -1);
    due("field(1) of an empty tape", h.field(1), -2);
    due("starred(0)", h.starred(0), NO);
    due("told(0, 0)", h.told(0, 0), Long.MIN_VALUE);
    due("trail()", h.trail(), 0);
    due("NONE", SwarmHouse.NONE, -1);
  }

  private static void feeding() {
    promise = 2;
    SwarmHouse h = new SwarmHouse();
    for (int i = 1; i <= 25; i++) due("feed " + i, h.feed(0x20202020, 0x0a0a0a0a, 0, 0, 0), 20 * i);
    due("feed beyond 500", h.feed(1, 2, 3, 4, 5), -1);
    due("field(501)", h.field(501), -2);
    due("field(8) of blanks", h.field(8), 0);
    due("feed on an empty tape", h.feed(0x64697363, 0x20313020, 0x333b2020, 0, 0), 20);
    due("field of disc 10 3;", h.field(10), 1);
    due("feed of a high byte", h.feed(0x20ff2020, 0, 0, 0, 0), 20);
    due("field with 255", h.field(4), -1);
    due("place of 255", h.fault(1), 1);
  }

  private static void fields() {
    promise = 3;
    SwarmHouse h = new SwarmHouse();
    due("an empty FIELD", h.field(0), 0);
    due("two PARTS", tell(h, "disc 10 3; use near > 5; halo 3..9 4;"), 2);
    due("MASS as at first", h.count(3), 3);
    h.mass(7);
    due("again", tell(h, "disc 10 3; halo 3 .. 9 4;"), 2);
    due("MASS as at first again", h.count(3), 3);
    due("no use now", h.count(6), 0);
    feed(h, "disc 1 1;");
    due("field(-1)", h.field(-1), -2);
    due("field(21)", h.field(21), -2);
    due("the tape stayed", h.field(9), 1);
    due("it is empty then", h.field(1), -2);
    due("SPAN without such a halo", h.count(5), 0);
    due("a FAULT", tell(h, "disc 1;"), -1);
    due("the tape is empty behind a FAULT", h.field(1), -2);
    due("the PARTS stay behind a FAULT", h.count(0), 1);
    due("all kinds", tell(h, "heap -1 2 3 4;disc 1 2;halo 1 2;bar 1 2 3;guest 1 -2 -3 4 5 6;"), 5);
    due("without blanks", tell(h, "heap1-1 2 3;halo5..5 1;"), 2);
    due("eight PARTS", tell(h, "disc 1 1;".repeat(8)), 8);
    due("the limits", tell(h, "heap 9999 -9999 99999 9999;guest 0 0 99 -99 0 1;bar 0 1 99;bar 0 1 1;"), 4);
  }

  /** A TEXT with a FAULT leaves THE FIELD as it was, also if much of it was read before its FAULT. */
  private static void fieldStays() {
    promise = 3;
    for (String bad : new String[] {"?", "disc 9 9;", "halo 5..6 1; use 0; guest 0 0 0 0 9 9", "use 0; bar 9 9 9; use 1;"}) {
      SwarmHouse h = with("heap 0 0 100 1; halo 10..90 4; bar 0 1 7; use near < 1000;");
      h.length(10);
      h.orbit(0, -30, 0, 0);
      h.orbit(300, 0, 0, 0);
      h.sight(0, 6, 1000, 1000);
      h.strike(0);
      h.mass(70);
      long[] before = shown(h);
      due("FAULT of " + bad, tell(h, bad + "!"), -1);
      long[] behind = shown(h);
      for (int i = 0; i < before.length; i++) due("answer " + i + " behind " + bad, behind[i], before[i]);
      due("THE MASS behind " + bad, h.count(3), 70);
      due("py behind " + bad, h.pull(0, 1, 0, 1), -50 - 2);
      due("the FAULT behind " + bad, h.fault(0) != 0, true);
      due("a SPAN's mass behind " + bad, h.mass(90), true);
      due("a mass beyond it behind " + bad, h.mass(91), false);
      due("a new FIELD behind " + bad, tell(h, "disc 4 1;"), 1);
      due("no FAULT now", h.fault(0), 0);
      due("no place now", h.fault(1), -1);
      due("the old PARTS are gone", h.pull(0, 1, 0, 1), -4);
      due("the old SPAN is gone", h.count(5), 0);
      due("the old use is gone", h.count(6), 0);
      due("an empty FIELD has no PARTS", tell(h, ""), 0);
      due("no PULL of it", h.pull(0, 1, 0, 1), 0);
    }
    SwarmHouse fresh = new SwarmHouse();
    due("a FAULT at first", tell(fresh, "disc 9 9; disc"), -1);
    due("no PARTS then", fresh.count(0), 0);
    due("no PULL then", fresh.pull(0, 9, 0, 1), 0);
  }

  /** What shows THE FIELD, its PARTS, its use, THE MASS and its SPAN. */
  private static long[] shown(SwarmHouse h) {
    h.star(3, 0, 0, 2, 0);
    long gone = h.go(5);
    return new long[] {
      gone, h.starred(0), h.starred(3), h.go(-2), h.starred(1), h.starred(2),
      h.back(0, 0), h.alike(0, 0) ? 1 : 0, h.share(0, 10, 0), h.share(0, 9, 1), h.weight(0, 0, 0), h.weight(0, 0, 1),
      h.range(0, 0, 1, true), h.range(0, 1, 10, true), h.quarrel(1),
      h.stream(0, 1, 0, 0, 400, 0, 0, 0, 3, 1), h.models(40, 4), h.models(40, 5), h.models(40, 6), h.models(40, 7),
      h.count(0), h.count(3), h.count(4), h.count(5), h.count(6), h.pull(5, 5, 8, 0), h.pull(5, 5, 8, 3), h.pull(5, 5, 8, 5),
      h.told(0, 7), h.told(1, 7), h.told(0, 2), h.at(1, 10, 0), h.tune(0, 1, 1) ? 1 : 0, h.tune(0, 9, 1) ? 1 : 0, h.fits(0),
      h.models(40, 0), h.models(40, 1), h.models(40, 3), h.trail(), h.bent(40, 3072)
    };
  }

  private static void fault(String text, int kind, int place) {
    SwarmHouse h = new SwarmHouse();
    due("field of " + text, tell(h, text) == -1, kind != 0);
    due("fault(0) of " + text, h.fault(0), kind);
    due("fault(1) of " + text, h.fault(1), place);
  }

  private static void faults() {
    promise = 4;
    fault("disc 1 1;", 0, -1);
    fault("disk 1 1;", 1, 0);
    fault("discs 1 1;", 1, 0);
    fault("Disc 1 1;", 1, 0);
    fault("disc 1 1", 1, 8);
    fault("disc 1 1  ", 1, 10);
    fault("disc 1 1\t;", 1, 8);
    fault("disc -1 1;", 1, 5);
    fault("disc 1;", 1, 6);
    fault("disc 1 1 1;", 1, 9);
    fault(";", 1, 0);
    fault("disc 1 1;;", 1, 9);
    fault("halo 1.2 3;", 1, 6);
    fault("halo 1...2 3;", 1, 8);
    fault("halo 1. .2 3;", 1, 6);
    fault("disc 1..2 3;", 1, 6);
    fault("halo 1(2 3;", 1, 6);
    fault("use ..1);", 1, 4);
    fault("heap - - 1 2 3 4;", 1, 7);
    fault("heap - 1 -  2 3 4;", 0, -1);
    fault("heap 10000 0 1 1;", 2, 5);
    fault("heap -10000 0 1 1;", 2, 6);
    fault("guest 0 0 100 0 1 1;", 2, 10);
    fault("guest 0 0 0 -100 1 1;", 2, 13);
    fault("disc 100000 1;", 2, 5);
    fault("disc 99999999999999999999 1;", 2, 5);
    fault("disc 1 0;", 2, 7);
    fault("disc 1 10000;", 2, 7);
    fault("bar 1 1 0;", 2, 8);
    fault("bar 1 1 100;", 2, 8);
    fault("halo 5..4 1;", 2, 8);
    fault("halo 5..100000 1;", 2, 8);
    fault("disc 1 1;".repeat(9), 2, 72);
    fault("disc 1 1;".repeat(8) + "use 1;", 0, -1);
    fault("use 100000;", 2, 4);
    fault("use 99999;", 0, -1);
    fault("use ((((((((1))))))));", 0, -1);
    fault("use (((((((((1)))))))));", 2, 12);
    fault("use 1" + "+1".repeat(23) + "+near;", 2, 51 + 1);
    fault("use 1" + "+1".repeat(23) + "-(((((((((;", 2, 51 + 9);
    fault("use not 1" + "+1".repeat(23) + ";", 0, -1);
    fault("use not not 1" + "+1".repeat(23) + ";", 2, 12 + 46);
    fault("use " + "not ".repeat(48) + "1;", 2, 4 + 4 * 48);
    fault("use 1; use 2;", 3, 7);
    fault("halo 1..2 3; halo 4 5; halo 1..2 3;", 3, 29);
    fault("use 1 2;", 1, 6);
    fault("use ;", 1, 4);
    fault("use", 1, 3);
    fault("use (1;", 1, 6);
    fault("use 1);", 1, 5);
    fault("use 1 < 2 < 3;", 1, 10);
    fault("use 1 < = 2;", 1, 8);
    fault("use 1 <> 2 and 1 <= 2 or 1 >= 2;", 0, -1);
    fault("use 1 =< 2;", 1, 7);
    fault("use 1 + not 2;", 1, 8);
    fault("use -1;", 1, 4);
    fault("use far and halo;", 1, 12);
    fault("use near sort;", 1, 9);
    SwarmHouse cut = new SwarmHouse();
    feed(cut, "halo 1..2 3;");
    due("cut in two .", cut.field(7), -1);
    due("place of the first .", cut.fault(1), 6);
    feed(cut, "use 1 <= 2;");
    due("cut in <=", cut.field(7), -1);
    due("place of what must come", cut.fault(1), 7);
    SwarmHouse h = new SwarmHouse();
    tell(h, "disc 1;");
    h.field(99);
    due("the -2 doesn't count", h.fault(0), 1);
    due("fault(2)", h.fault(2), -1);
    due("fault(-1)", h.fault(-1), -1);
    tell(h, "disc 1 1;");
    due("no FAULT now", h.fault(0), 0);
  }

  private static void masses() {
    promise = 5;
    SwarmHouse h = with("halo 10..20 5;");
    due("mass(9)", h.mass(9), false);
    due("mass(21)", h.mass(21), false);
    due("mass stays", h.count(3), 10);
    due("mass(20)", h.mass(20), true);
    due("count(3)", h.count(3), 20);
    due("mass(10)", h.mass(10), true);
    due("mass(0) without a FIELD", new SwarmHouse().mass(0), true);
    due("mass(1) without a FIELD", new SwarmHouse().mass(1), false);
  }

  private static void pull(SwarmHouse h, int x, int y, int t, int px, int py) {
    due("px at " + x + ", " + y + ", " + t, h.pull(x, y, t, 0), px);
    due("py at " + x + ", " + y + ", " + t, h.pull(x, y, t, 1), py);
  }

  private static void pulls() {
    promise = 6;
    pull(with("heap 3 4 100 2;"), 13, 4, 0, -9, 0);
    pull(with("heap 3 4 100 2;"), -7, -6, 9, 4, 4);
    pull(with("disc 1000 5;"), 10, 5, 77, -66, -66);
    pull(with("halo 1000 5;"), 4, 3, 0, -40, -30);
    pull(with("halo 1000 5;"), 5, -3, 0, -50, 30);
    SwarmHouse bar = with("bar 1000 5 3;");
    pull(bar, 10, 5, 2, -66, -66);
    pull(bar, 10, 5, 3, -83, -17);
    pull(bar, 10, 5, 6, -133, -33);
    pull(bar, 10, 5, 9, -116, -84);
    pull(bar, 10, 5, 12, -66, -66);
    pull(with("guest 10 0 2 -1 100 3;"), 25, -5, 5, -14, 0);
    pull(with("heap 3 4 100 2;halo 1000 5;"), 13, 4, 0, -49, -12);
    SwarmHouse h = with("halo 10..1000 5;");
    h.mass(100);
    pull(h, 4, 3, 0, -4, -3);
    due("least px", h.pull(4, 3, 0, 2), -40);
    due("least py", h.pull(4, 3, 0, 3), -30);
    due("greatest px", h.pull(4, 3, 0, 4), 0);
    due("greatest py", h.pull(4, 3, 0, 5), 0);
    due("least px to the left", h.pull(-4, 3, 0, 2), 0);
    due("greatest px to the left", h.pull(-4, 3, 0, 4), 40);
    due("the mass stays", h.count(3), 100);
    due("at the edge", h.pull(20000, -20000, 240, 0), 0);
    int[][] bad = {{20001, 0, 0, 0}, {-20001, 0, 0, 0}, {0, 20001, 0, 0}, {0, NO, 0, 0}, {0, 0, -1, 0}, {0, 0, 241, 0}, {0, 0, 0, -1}, {0, 0, 0, 6}};
    for (int[] b : bad) due("a bad pull", h.pull(b[0], b[1], b[2], b[3]), NO);
  }

  private static void stars() {
    promise = 7;
    SwarmHouse h = new SwarmHouse();
    int[][] bad = {{10000, 0, 0, 0, 0}, {-10000, 0, 0, 0, 0}, {0, 10000, 0, 0, 0}, {0, 0, 1000, 0, 0}, {0, 0, 0, -1000, 0}, {0, 0, 0, 0, -1}, {0, 0, 0, 0, 241}, {NO, 0, 0, 0, 0}};
    for (int[] b : bad) due("a bad star", h.star(b[0], b[1], b[2], b[3], b[4]), false);
    due("there is none", h.go(0), -1);
    due("at the edges", h.star(-9999, 9999, 999, -999, 240), true);
    h.star(10000, 0, 0, 0, 0);
    due("it stays", h.starred(0), -9999);
  }

  private static void going() {
    promise = 8;
    SwarmHouse h = new SwarmHouse();
    h.star(9999, 0, 999, 0, 0);
    due("go(241)", h.go(241), -1);
    due("go(-241)", h.go(-241), -1);
    due("go(0)", h.go(0), 0);
    due("till it is GONE", h.go(240), 11);
    due("GONE", h.go(1), 0);
    due("x", h.starred(0), 20988);
    due("back again", h.go(-1), 1);
    due("and on", h.go(9), 1);
    due("back to time 0", h.go(-240), 11);
    due("x at time 0", h.starred(0), 9999);
    h.star(0, 0, 0, 999, 240);
    due("time is 240", h.go(1), 0);
    due("back till GONE", h.go(-240), 21);
    due("GONE back", h.go(-1), 0);
    due("on", h.go(1), 1);
    due("y", h.starred(1), -19980);
    h.star(5000, 0, 750, 0, 0);
    due("20000 is not beyond", h.go(240), 21);
    h.star(-5000, 0, -750, 0, 0);
    due("-20000 is not beyond", h.go(240), 21);
    h.star(0, 5000, 0, 750, 0);
    due("20000 of y is not beyond", h.go(240), 21);
    h.star(0, -5000, 0, -750, 0);
    due("-20000 of y is not beyond", h.go(240), 21);
    h.star(0, 0, 0, 0, 238);
    due("times stay", h.go(240), 2);
    SwarmHouse f = with("bar 9000 40 7; halo 300..900 20; guest 100 100 -3 2 5000 30; heap 20 -50 4000 35; disc 700 9;");
    f.star(200, 30, -5, 12, 3);
    due("through the FIELD", f.go(60), 60);
    due("and back", f.go(-60), 60);
    int[] start = {200, 30, -5, 12, 3};
    for (int what = 0; what < 5; what++) due("taken back exactly", f.starred(what), start[what]);
  }

  private static void starTold() {
    promise = 9;
    SwarmHouse h = with("heap 3 4 100 2;");
    due("no star", h.starred(4), NO);
    h.star(13, 4, 1, 2, 7);
    h.go(1);
    int[] want = {5, 6, -8, 2, 8};
    for (int what = 0; what < 5; what++) due("starred(" + what + ")", h.starred(what), want[what]);
    due("starred(-1)", h.starred(-1), NO);
    due("starred(5)", h.starred(5), NO);
  }

  private static void lengths() {
    promise = 10;
    SwarmHouse h = new SwarmHouse();
    h.orbit(0, 0, 1, 0);
    due("60 at first", h.told(0, 0), 60);
    due("length(9)", h.length(9), false);
    due("length(241)", h.length(241), false);
    due("length stays", h.count(7), 60);
    due("length(240)", h.length(240), true);
    due("told goes with it", h.told(0, 0), 240);
    due("x behind 240", h.at(0, 240, 0), 240);
    due("SHARE of 240", h.share(0, 10, 0), 240);
    h.orbit(5, -240, 0, 1);
    due("a RETURN at 240", h.back(1, 0), 5);
    due("length(10)", h.length(10), true);
    due("count(7)", h.count(7), 10);
    due("x behind 10", h.at(0, 10, 0), 10);
  }

  private static void orbits() {
    promise = 11;
    SwarmHouse h = new SwarmHouse();
    int[][] bad = {{10000, 0, 0, 0}, {0, -10000, 0, 0}, {0, 0, 1000, 0}, {0, 0, 0, -1000}, {0, 0, NO, 0}};
    for (int[] b : bad) due("a bad orbit", h.orbit(b[0], b[1], b[2], b[3]), -1);
    for (int i = 0; i < 6; i++) due("orbit " + i, h.orbit(9999, -9999, 999, -999), i);
    due("a seventh", h.orbit(0, 0, 0, 0), -1);
    due("count(1)", h.count(1), 6);
  }

  private static void told(SwarmHouse h, int orbit, long... want) {
    for (int what = 0; what < want.length; what++) due("told(" + orbit + ", " + what + ")", h.told(orbit, what), want[what]);
  }

  private static void allTold() {
    promise = 12;
    SwarmHouse h = new SwarmHouse();
    h.length(20);
    h.orbit(100, -20, 0, 10);
    told(h, 0, 20, 10000, 42400, 1, 0, 0, 1, 1);
    h.orbit(0, 0, -1, 1);
    told(h, 1, 20, 0, 800, 1, 2, 0, 0, 1);
    h.length(21);
    due("gone anew from the middle", h.told(1, 3), 1);
    h.length(20);
    h.orbit(-5, -5, 1, 1);
    told(h, 2, 20, 0, 450, 0, 2, 0, 1, 1);
    h.orbit(9999, 0, 999, 0);
    told(h, 3, 11, 99980001, 440496144, 0, 3, 0, 0, 1);
    h.orbit(0, 0, 1, -1);
    due("from the middle to 3", h.told(4, 3), -1);
    h.orbit(-3, -1, 1, 0);
    due("2 to 3", h.told(5, 3), 1);
    SwarmHouse q = new SwarmHouse();
    q.orbit(9, -3, 0, 3);
    due("3 to 0", q.told(0, 3), 1);
    q.orbit(9, 3, 0, -3);
    due("0 to 3", q.told(1, 3), -1);
    q.orbit(9, 9, -9, 0);
    due("0 to 1", q.told(2, 3), 1);
    q.orbit(-9, 9, 0, -9);
    due("1 to 2", q.told(3, 3), 1);
    q.orbit(-9, -9, 9, 0);
    due("2 to 3 on the line", q.told(4, 3), 1);
    q.orbit(9, 9, -18, -18);
    due("across", q.told(5, 3), 0);
    due("told(6, 0)", h.told(6, 0), Long.MIN_VALUE);
    due("told(-1, 0)", h.told(-1, 0), Long.MIN_VALUE);
    due("told(0, -1)", h.told(0, -1), Long.MIN_VALUE);
    due("told(0, 8)", h.told(0, 8), Long.MIN_VALUE);
    SwarmHouse box = with("halo 961 1; heap 0 900 1000 1;");
    box.length(10);
    box.orbit(30, 0, 0, 0);
    long most = 0;
    long least = 0;
    for (int t = 0; t <= 10; t++) {
      long spin = (long) box.at(0, t, 0) * box.at(0, t, 3) - (long) box.at(0, t, 1) * box.at(0, t, 2);
      most = Math.max(most, spin);
      least = Math.min(least, spin);
    }
    due("a BOX", box.told(0, 4), 1);
    due("DRIFT", box.told(0, 5), most - least);
    due("DRIFT is above 0", most > least, true);
    SwarmHouse rising = with("heap 0 5000 5010 1;");
    rising.length(10);
    rising.orbit(10, 0, 0, 0);
    due("SPIN 0 at first and above 0 then is a BOX", rising.told(0, 4), 1);
    due("its DRIFT", rising.told(0, 5), 10 * rising.at(0, 10, 3));
    SwarmHouse small = new SwarmHouse();
    small.orbit(1, 0, 0, 1);
    small.orbit(1, 0, 0, -1);
    due("SPIN 1", small.told(0, 4), 0);
    due("SPIN -1", small.told(1, 4), 0);
    SwarmHouse ring = with("halo 961 1;");
    ring.length(10);
    ring.orbit(30, 0, 0, 0);
    told(ring, 0, 10, 0, 900, 0, 2, 0, 0, 1);
    uses();
  }

  private static void use(String e, int want) {
    SwarmHouse h = with("use " + e + ";");
    h.length(20);
    h.orbit(100, -20, 0, 10);
    due("USED by " + e, h.told(0, 7), want);
  }

  /** near 10000, far 42400, turns 1, sort 0, gone 0, returns 1. */
  private static void uses() {
    use("near = 10000 and far = 42400 and turns = 1 and sort = 0 and gone = 0 and returns = 1", 1);
    use("7", 1);
    use("0", 0);
    use("0 - 1", 1);
    use("1 / sort", 0);
    use("1 or 1 / 0", 0);
    use("0 and 1 / 0", 0);
    use("2 + 3 * 4 = 14", 1);
    use("(2 + 3) * 4 = 20", 1);
    use("10 - 4 - 3 = 3", 1);
    use("100 / 10 / 5 = 2", 1);
    use("(0 - 7) / 2 = 0 - 3", 1);
    use("1 or 0 and 0", 1);
    use("not 1 = 2", 1);
    use("not not 5 = 5", 1);
    use("(not not 5) = 1", 1);
    use("(5 and 2) + (0 or 3) = 2", 1);
    use("3 < 3", 0);
    use("3 <= 3", 1);
    use("3 <> 3", 0);
    use("3 >= 3", 1);
    use("3 > 3", 0);
    use("3>=3", 1);
    use("3<=3", 1);
    use("3<>4", 1);
    use("3>2", 1);
    use("2<3", 1);
    use("1 and 0", 0);
    use("1 or 0", 1);
    use("1 * near = near", 1);
    use("0 * near = 0", 1);
    use("10000 * 10000 * 10000 * 1000", 1);
    use("10000 * 10000 * 10000 * 1000 + 0", 1);
    use("10000 * 10000 * 10000 * 1000 + 1", 0);
    use("0 - 10000 * 10000 * 10000 * 1000 - 1", 0);
    use("0 - 10000 * 10000 * 10000 * 1000", 1);
    use("99999 * 99999 * 99999 * 99999 * 99999 * 99999 or 1", 0);
    SwarmHouse h = with("use gone = 11 and sort = 3;");
    h.length(20);
    h.orbit(9999, 0, 999, 0);
    h.orbit(0, 0, 1, 1);
    due("gone", h.told(0, 7), 1);
    due("not gone", h.told(1, 7), 0);
  }

  private static void places() {
    promise = 13;
    SwarmHouse h = with("halo 961 1;");
    h.length(10);
    h.orbit(30, 0, 0, 0);
    int[] xs = {30, 0, -30, -30, 0, 30, 30, 0, -30, -30, 0};
    int[] us = {0, -30, -30, 0, 30, 30, 0, -30, -30, 0, 30};
    for (int t = 0; t <= 10; t++) {
      due("x behind " + t, h.at(0, t, 0), xs[t]);
      due("y behind " + t, h.at(0, t, 1), 0);
      due("u behind " + t, h.at(0, t, 2), us[t]);
      due("v behind " + t, h.at(0, t, 3), 0);
    }
    due("behind 11", h.at(0, 11, 0), NO);
    due("behind -1", h.at(0, -1, 0), NO);
    due("what 4", h.at(0, 0, 4), NO);
    due("what -1", h.at(0, 0, -1), NO);
    due("no ORBIT", h.at(1, 0, 0), NO);
    tell(h, "");
    due("in the FIELD of now", h.at(0, 10, 0), 30);
    tell(h, "halo 0..961 1;");
    due("with THE MASS", h.at(0, 2, 0), 30);
    h.mass(961);
    due("with another", h.at(0, 2, 0), -30);
    SwarmHouse g = new SwarmHouse();
    g.orbit(9999, 0, 999, 0);
    due("the place where it is GONE", g.at(0, 11, 0), 20988);
    due("it did no more", g.at(0, 12, 0), NO);
  }

  private static void returns() {
    promise = 14;
    SwarmHouse h = with("halo 961 1;");
    h.length(20);
    h.orbit(0, 30, 0, 0);
    // y: 0, -30, -30, 0, 30, 30 and so on: it comes back at 4, 10, 16
    due("RETURNS", h.told(0, 6), 3);
    due("back(0, 2)", h.back(0, 2), 0);
    due("back(0, 3)", h.back(0, 3), NO);
    due("back(0, -1)", h.back(0, -1), NO);
    due("back(1, 0)", h.back(1, 0), NO);
    h.orbit(7, -20, 3, 10);
    tell(h, "");
    due("x behind the STEP", h.back(1, 0), 13);
  }

  private static void alikes() {
    promise = 15;
    SwarmHouse h = new SwarmHouse();
    h.length(25);
    h.orbit(-100, -20, 0, 10);
    h.orbit(-50, -20, 0, 10);
    h.orbit(-151, -20, 0, 10);
    h.orbit(0, -20, 0, 10);
    h.orbit(100, -20, 999, 10);
    h.orbit(-100, 20, 0, 10);
    due("50 apart", h.alike(0, 1), true);
    due("the other way", h.alike(1, 0), true);
    due("51 apart", h.alike(0, 2), false);
    due("another SORT", h.alike(1, 3), false);
    due("with itself", h.alike(3, 3), true);
    due("GONE", h.told(4, 6) == 1 && h.alike(4, 4), false);
    due("no RETURNS", h.alike(5, 5), false);
    due("none such", h.alike(0, 6), false);
    due("none such", h.alike(-1, 0), false);
    SwarmHouse half = with("halo 57003 17;");
    half.length(40);
    half.orbit(-116, -35, 19, -14);
    half.orbit(61, 179, 8, 18);
    // RETURNS 250, 62 and 98
    due("RETURNS of the first", half.back(0, 0) == 250 && half.back(0, 1) == 62 && half.told(0, 6) == 2, true);
    due("RETURNS of the other", half.back(1, 0) == 98 && half.told(1, 6) == 1, true);
    due("half of the one, all of the other", half.alike(0, 1), true);
    SwarmHouse less = with("halo 37180 242;");
    less.length(40);
    less.orbit(-108, 162, 9, -6);
    less.orbit(114, 90, 3, 19);
    // RETURNS -42, -6, -22 and 72, 37, 34: only -6 of the first is near one
    due("one of three", less.alike(0, 1), false);
    due("and the other way", less.alike(1, 0), false);
  }

  private static void tunes() {
    promise = 16;
    SwarmHouse h = new SwarmHouse();
    h.length(10);
    h.orbit(100, -20, 0, 10);
    h.orbit(-100, -20, 0, 10);
    due("no bar", h.tune(0, 1, 1), false);
    tell(h, "bar 0 1 5; bar 0 1 50;");
    for (int orbit = 0; orbit < 2; orbit++) {
      due("1 to 1", h.tune(orbit, 1, 1), true);
      due("2 to 1", h.tune(orbit, 2, 1), true);
      due("3 to 1", h.tune(orbit, 3, 1), false);
      due("4 to 2", h.tune(orbit, 4, 2), true);
      due("5 to 2", h.tune(orbit, 5, 2), false);
      due("9 to 9", h.tune(orbit, 9, 9), true);
    }
    tell(h, "bar 0 1 1;");
    due("with T 1: 2 from 10", h.tune(0, 1, 1), false);
    due("with T 1: 18 from 20", h.tune(0, 2, 9), true);
    tell(h, "bar 0 1 5; bar 0 1 50;");
    due("p 0", h.tune(0, 0, 1), false);
    due("p 10", h.tune(0, 10, 9), false);
    due("q 0", h.tune(0, 1, 0), false);
    due("q 10", h.tune(0, 9, 10), false);
    due("no ORBIT", h.tune(2, 1, 1), false);
  }

  private static void cellsOf() {
    promise = 17;
    SwarmHouse h = new SwarmHouse();
    due("cells(2, 8)", h.cells(2, 8), true);
    due("cells(8, 20000)", h.cells(8, 20000), true);
    due("cells(1, 8)", h.cells(1, 8), false);
    due("cells(9, 8)", h.cells(9, 8), false);
    due("cells(2, 7)", h.cells(2, 7), false);
    due("cells(2, 20001)", h.cells(2, 20001), false);
    due("G stays", h.count(8), 8);
    due("R stays", h.count(9), 20000);
  }

  /** With no pull and no speed an ORBIT stays in one CELL. */
  private static void inCell(int x, int y, int cell) {
    SwarmHouse h = new SwarmHouse();
    h.length(10);
    h.orbit(x, y, 0, 0);
    for (int c = 0; c < 64; c++) due("share at " + x + ", " + y + " in " + c, h.share(0, c, 0), c == cell ? 10 : 0);
  }

  private static void shares() {
    promise = 18;
    inCell(-1000, -1000, 0);
    inCell(-501, -1000, 0);
    inCell(-500, -1000, 1);
    inCell(-1, -1, 5);
    inCell(0, -1, 6);
    inCell(0, 0, 10);
    inCell(999, 999, 15);
    inCell(1000, 999, -1);
    inCell(999, 1000, -1);
    inCell(-1001, 0, -1);
    SwarmHouse h = with("halo 961 1;");
    h.length(10);
    h.cells(2, 1000);
    h.orbit(30, 0, 0, 0);
    due("SHARE of the left", h.share(0, 2, 0), 4);
    due("SHARE of the right", h.share(0, 3, 0), 6);
    due("GOING of the left", h.share(0, 2, 1), -60);
    due("GOING of the right", h.share(0, 3, 1), 30);
    due("beyond G by G", h.share(0, 63, 0), 0);
    due("cell 64", h.share(0, 64, 0), NO);
    due("cell -1", h.share(0, -1, 0), NO);
    due("what 2", h.share(0, 0, 2), NO);
    due("what -1", h.share(0, 0, -1), NO);
    due("no ORBIT", h.share(1, 0, 0), NO);
    h.cells(3, 1000);
    due("by CELLS of now", h.share(0, 4, 0), 10);
  }

  private static void portion() {
    promise = 19;
    SwarmHouse h = new SwarmHouse();
    due("portions(0)", h.portions(0), false);
    due("portions(11)", h.portions(11), false);
    due("they stay", h.count(10), 6);
    due("portions(10)", h.portions(10), true);
    due("portions(1)", h.portions(1), true);
    due("count(10)", h.count(10), 1);
  }

  private static void sights() {
    promise = 20;
    SwarmHouse h = new SwarmHouse();
    int[][] bad = {{-1, 0, 0, 1}, {2, 0, 0, 1}, {0, -1, 0, 1}, {0, 64, 0, 1}, {0, 0, -1, 1}, {0, 0, 0, 1001}, {0, 0, 5, 4}, {1, 0, -10000, 0}, {1, 0, 0, 10000}, {1, 0, 1, 0}};
    for (int[] b : bad) due("a bad sight", h.sight(b[0], b[1], b[2], b[3]), -1);
    due("LIGHT", h.sight(0, 63, 0, 1000), 0);
    due("GOING", h.sight(1, 0, -9999, 9999), 1);
    for (int i = 2; i < 10; i++) due("sight " + i, h.sight(0, i, 7, 7), i);
    due("an eleventh", h.sight(0, 0, 0, 1), -1);
    due("count(2)", h.count(2), 10);
  }

  /** Three ORBITS that stay in the CELLS 0, 15 and 5. */
  private static SwarmHouse resting() {
    SwarmHouse h = new SwarmHouse();
    h.length(10);
    h.orbit(-900, -900, 0, 0);
    h.orbit(900, 900, 0, 0);
    h.orbit(-100, -100, 0, 0);
    return h;
  }

  private static void strikes() {
    promise = 21;
    SwarmHouse h = resting();
    due("nothing to strike", h.strike(0), -1);
    h.sight(0, 0, 1000, 1000);
    due("strike(-1)", h.strike(-1), -1);
    due("strike(1)", h.strike(1), -1);
    due("by all", h.fits(1), 1);
    due("strike 0", h.strike(0), 1);
    due("struck", h.fits(2), 28);
    due("not struck then", h.fits(1), 1);
    due("strike 1", h.strike(1), 2);
    due("the STRIKE is STRUCK", h.fits(3), 1);
    due("strike 2", h.strike(2), 3);
    due("and that one, too", h.fits(4), 28);
    due("a second strike of 0", h.strike(0), 4);
    due("strike 3", h.strike(3), 5);
    due("the second one counts", h.fits(6), 28);
    for (int i = 6; i < 10; i++) h.strike(5);
    due("an eleventh", h.strike(0), -1);
  }

  private static void fitting() {
    promise = 22;
    SwarmHouse none = new SwarmHouse();
    due("no ORBITS", none.fits(0), 0);
    SwarmHouse h = resting();
    due("all", h.fits(0), 28);
    h.portions(10);
    due("of ten", h.fits(0), 66);
    h.portions(6);
    h.sight(0, 0, 500, 500);
    due("half of the LIGHT", h.fits(1), 4);
    h.sight(0, 15, 0, 166);
    due("less than a sixth", h.fits(2), 1);
    h.sight(0, 15, 0, 167);
    h.strike(1);
    due("a sixth", h.fits(4), 2);
    due("of the first", h.fits(1), 4);
    due("fits(-1)", h.fits(-1), -1);
    due("fits(5)", h.fits(5), -1);
    h.length(20);
    due("LENGTH counts on both sides", h.fits(4), 2);
    SwarmHouse gone = new SwarmHouse();
    gone.cells(2, 20000);
    gone.length(20);
    gone.orbit(9999, 0, 999, 0);
    gone.sight(0, 3, 0, 500);
    due("LIGHT of ten STEPS of 20", gone.fits(1), 1);
    SwarmHouse moving = with("halo 961 1;");
    moving.length(10);
    moving.cells(2, 1000);
    moving.orbit(30, 0, 0, 0);
    moving.sight(1, 2, -15, -15);
    due("GOING is -60 by 4", moving.fits(1), 1);
    moving.sight(1, 3, 5, 9);
    due("GOING is 30 by 6", moving.fits(2), 1);
    moving.sight(1, 0, 5, 9);
    due("without LIGHT it holds", moving.fits(3), 1);
    moving.sight(1, 2, -14, 9);
    due("too low", moving.fits(4), 0);
    SwarmHouse far = resting();
    far.sight(0, 63, 0, 5);
    due("a CELL beyond G by G", far.fits(1), 28);
    far.sight(0, 63, 1, 5);
    due("has no LIGHT", far.fits(2), 0);
  }

  private static void weights() {
    promise = 23;
    SwarmHouse h = resting();
    h.portions(2);
    int[][] all = {{2, 0, 0}, {1, 1, 0}, {1, 0, 1}, {0, 2, 0}, {0, 1, 1}, {0, 0, 2}};
    for (int k = 0; k < 6; k++) {
      for (int i = 0; i < 3; i++) due("weight(0, " + k + ", " + i + ")", h.weight(0, k, i), all[k][i]);
    }
    due("k 6", h.weight(0, 6, 0), -1);
    due("k -1", h.weight(0, -1, 0), -1);
    due("ORBIT 3", h.weight(0, 0, 3), -1);
    due("n 1", h.weight(1, 0, 0), -1);
    due("k far beyond", h.weight(0, Integer.MAX_VALUE, 0), -1);
    due("a use alone", tell(h, "use near > 90000;"), 0);
    due("of those that are USED", h.weight(0, 1, 1), 1);
    due("not USED", h.weight(0, 1, 2), 0);
    due("k 3", h.weight(0, 3, 0), -1);
  }

  private static void ranges() {
    promise = 24;
    SwarmHouse h = resting();
    h.sight(0, 0, 500, 900);
    due("the least WEIGHT", h.range(1, 0, 0, false), 3);
    due("the greatest WEIGHT", h.range(1, 0, 0, true), 5);
    due("of the other", h.range(1, 0, 1, true), 3);
    due("the least LIGHT", h.range(1, 1, 0, false), 30);
    due("the greatest LIGHT", h.range(1, 1, 0, true), 50);
    due("of all", h.range(0, 1, 0, true), 60);
    due("a CELL beyond", h.range(1, 1, 63, true), 0);
    due("CELL 64", h.range(1, 1, 64, true), -1);
    due("CELL -1", h.range(1, 1, -1, true), -1);
    due("ORBIT 3", h.range(1, 0, 3, true), -1);
    due("what 2", h.range(1, 2, 0, true), -1);
    due("n 2", h.range(2, 0, 0, true), -1);
    h.sight(0, 0, 0, 0);
    due("there are none", h.range(2, 1, 0, false), -1);
  }

  private static void quarrels() {
    promise = 25;
    SwarmHouse h = resting();
    due("FITS", h.quarrel(0), 0);
    h.sight(0, 5, 0, 1000);
    h.sight(0, 0, 800, 1000);
    h.sight(0, 15, 800, 1000);
    due("two", h.quarrel(3), 6);
    h.sight(0, 5, 800, 1000);
    due("of several the least bits", h.quarrel(4), 6);
    h.sight(0, 3, 1, 1000);
    due("one alone", h.quarrel(5), 16);
    h.strike(4);
    h.strike(1);
    due("as KNOWN", h.quarrel(7), 12);
    due("as KNOWN before", h.quarrel(5), 16);
    due("n 8", h.quarrel(8), -1);
    due("n -1", h.quarrel(-1), -1);
    tell(h, "use 0;");
    due("no ORBIT is USED", h.quarrel(5), 0);
    SwarmHouse three = resting();
    three.sight(0, 0, 400, 1000);
    three.sight(0, 15, 400, 1000);
    three.sight(0, 5, 400, 1000);
    due("three together", three.quarrel(3), 7);
  }

  private static void models() {
    promise = 26;
    SwarmHouse h = with("halo 0..961 1;");
    h.length(10);
    h.cells(2, 1000);
    h.portions(1);
    due("none KEPT without ORBITS", h.models(961, 1), 0);
    due("least mass", h.models(961, 2), -1);
    h.orbit(30, 0, 0, 0);
    int[] want = {2, 3, 0, 961, 2, 0, 1, 2};
    for (int what = 0; what < 8; what++) due("models(961, " + what + ")", h.models(961, what), want[what]);
    due("at most 8", h.models(1, 0), 8);
    due("by 137", h.models(137, 0), 8);
    due("by 138", h.models(138, 0), 7);
    due("by 962", h.models(962, 0), 1);
    due("LOOK of one", h.models(962, 4), -1);
    due("TWINS of one", h.models(962, 5), -1);
    due("pace 0", h.models(0, 0), -1);
    due("pace 99999", h.models(99999, 0), 1);
    due("pace 100000", h.models(100000, 0), -1);
    due("what 8", h.models(961, 8), -1);
    due("what -1", h.models(961, -1), -1);
    due("THE MASS stays", h.count(3), 0);
    due("and the ORBIT", h.at(0, 2, 0), 30);
    h.sight(1, 0, 0, 0);
    due("alike where it was seen", h.models(961, 6), 1);
    due("and where not", h.models(961, 7), 2);
    h.sight(1, 2, -99, 99);
    due("parted by a SIGHT", h.models(961, 5), -1);
    due("parted, 7", h.models(961, 7), -1);
    h.strike(1);
    due("STRUCK", h.models(961, 5), 0);
    h.sight(0, 3, 700, 1000);
    due("the lesser one", h.models(961, 1), 1);
    due("the greatest mass", h.models(961, 3), 0);
    h.strike(3);
    h.sight(0, 3, 600, 700);
    due("the greater one", h.models(961, 1), 2);
    due("the least mass", h.models(961, 2), 961);
    due("without a SPAN", new SwarmHouse().models(5, 0), 1);
    anew();
  }

  /** What was found by a pace is not held against what changes then. */
  private static void anew() {
    SwarmHouse h = with("halo 0..961 1;");
    h.length(10);
    h.cells(2, 1000);
    h.portions(1);
    h.orbit(30, 0, 0, 0);
    h.orbit(-500, -500, 0, 0);
    h.sight(0, 0, 1, 999);
    due("one PORTION can't be in both", h.models(961, 1), 0);
    h.portions(2);
    due("two can", h.models(961, 1), 3);
    h.length(11);
    due("another LENGTH", h.models(961, 7), 2);
    h.cells(2, 29);
    due("other CELLS", h.models(961, 1), 0);
    h.orbit(-9, -9, 0, 0);
    due("another ORBIT", h.models(961, 1) & 1, 1);
    tell(h, "halo 0..10 1;");
    due("another FIELD", h.models(961, 0), 1);
  }

  private static void streams() {
    promise = 27;
    SwarmHouse h = new SwarmHouse();
    h.cells(2, 20000);
    due("both there", h.stream(0, 0, 0, 0, 500, -999, 999, 0, 2, 19), 2);
    due("one is GONE", h.stream(0, 0, 0, 0, 500, -999, 999, 0, 2, 20), 1);
    int[][] bad = {
      {0, 0, 0, 0, 0, 0, 0, 0, 1, 10}, {0, 0, 0, 0, 0, 0, 0, 0, 17, 10}, {0, 0, 0, 0, 0, 0, 0, 0, 2, 0}, {0, 0, 0, 0, 0, 0, 0, 0, 2, 241},
      {10000, 0, 0, 0, -1, 0, 0, 0, 2, 9}, {9999, 0, 0, 0, 1, 0, 0, 0, 2, 9}, {0, -9999, 0, 0, 0, -1, 0, 0, 2, 9}, {0, 0, 1000, 0, 0, 0, -1, 0, 2, 9},
      {0, 0, 999, 0, 0, 0, 1, 0, 2, 9}, {0, 0, 0, 999, 0, 0, 0, 1, 2, 9}, {0, 0, 0, 0, 1000, 0, 0, 0, 2, 9}, {0, 0, 0, 0, 0, -1000, 0, 0, 2, 9},
      {0, 0, -999, 0, 0, 0, 1000, 0, 2, 9}, {0, 0, 0, -999, 0, 0, 0, 1000, 2, 9}, {0, 0, 0, 0, NO, 0, 0, 0, 3, 9}, {0, 0, 0, 0, 0, 0, 1431655766, 0, 4, 9}};
    for (int[] b : bad) due("a bad stream", h.stream(b[0], b[1], b[2], b[3], b[4], b[5], b[6], b[7], b[8], b[9]), -1);
    due("the one at hand stays", h.trail(), 8);
    due("at the edges", h.stream(-9999, 9999, -999, 999, 999, -999, 133, -133, 16, 240) >= 0, true);
  }

  private static void trails() {
    promise = 28;
    SwarmHouse h = with("halo 0..961 1;");
    h.cells(2, 1000);
    due("none at hand", h.trail(), 0);
    h.stream(30, 0, 0, 0, 0, 0, 0, 0, 2, 2);
    due("with mass 0", h.trail(), 8);
    h.mass(961);
    due("with mass 961", h.trail(), 4);
    h.cells(8, 31);
    due("by CELLS of now", h.trail(), 1L << 32);
    h.cells(8, 29);
    due("none elsewhere", h.trail(), 0);
    h.cells(8, 31);
    h.stream(0, 30, 0, 0, 0, -60, 0, 0, 2, 1);
    due("both in the middle", h.trail(), 1L << 36);
    tell(h, "");
    due("in the FIELD of now", h.trail(), 1L << 60 | 1L << 4);
  }

  private static void bents() {
    promise = 29;
    SwarmHouse h = with("halo 0..961 1;");
    h.cells(2, 1000);
    due("no STREAM", h.bent(961, 4), -1);
    h.stream(30, 0, 0, 0, 0, 0, 0, 0, 2, 2);
    due("bent(961, 4)", h.bent(961, 4), 961);
    due("bent(961, 8)", h.bent(961, 8), 0);
    due("of several the least", h.bent(961, 12), 0);
    due("all unlike", h.bent(961, ~4L), 0);
    due("but one", h.bent(961, ~8L), 961);
    due("by 962", h.bent(962, 4), 0);
    due("pace 0", h.bent(0, 4), -1);
    due("pace 100000", h.bent(100000, 4), -1);
    due("pace 99999", h.bent(99999, 4), 0);
    due("all 64 unlike", h.bent(99999, ~8L), 0);
    due("THE MASS stays", h.count(3), 0);
    due("and the TRAIL", h.trail(), 8);
  }

  private static void counts() {
    promise = 30;
    SwarmHouse h = with("disc 5 5; halo 7..9 2; use not near + 3 * 4 >= (far - 1) and turns <> 0;");
    h.mass(8);
    h.length(33);
    h.cells(5, 77);
    h.portions(4);
    h.orbit(0, 0, 0, 0);
    h.sight(0, 0, 0, 0);
    h.strike(0);
    int[] want = {2, 1, 2, 8, 7, 9, 14, 33, 5, 77, 4};
    for (int what = 0; what < want.length; what++) due("count(" + what + ")", h.count(what), want[what]);
    due("count(11)", h.count(11), -1);
    due("count(-1)", h.count(-1), -1);
  }

  public static void main(String[] args) {
    newObject();
    feeding();
    fields();
    fieldStays();
    faults();
    masses();
    pulls();
    stars();
    going();
    starTold();
    lengths();
    orbits();
    allTold();
    places();
    returns();
    alikes();
    tunes();
    cellsOf();
    shares();
    portion();
    sights();
    strikes();
    fitting();
    weights();
    ranges();
    quarrels();
    models();
    streams();
    trails();
    bents();
    counts();
    System.out.println(wrong == 0 ? "all promises are as due" : wrong + " answers are not as due");
    if (wrong != 0) System.exit(1);
  }
}
