/** What the tests of the boundary cases share: each check stands under the words of the document that it holds to. */
final class Edge {
  static final int NO = Integer.MIN_VALUE;
  static final int MAX = Integer.MAX_VALUE;
  static final long NO_LONG = Long.MIN_VALUE;
  private static final int BLANKS = 0x20202020;
  private static int wrong = 0;
  private static String where = "";

  private Edge() {}

  /** The promise (or the part of the terms) and its words, under which the next checks stand. */
  static void says(String promise, String words) { where = promise + ", \"" + words + "\""; }

  static void due(String what, long got, long want) {
    if (got != want) {
      wrong++;
      System.out.println(where + ": " + what + " answered " + got + ", due is " + want);
    }
  }

  static void due(String what, boolean got, boolean want) { due(what, got ? 1 : 0, want ? 1 : 0); }

  static void end() {
    System.out.println(wrong == 0 ? "all edges are as due" : wrong + " answers are not as due");
    if (wrong != 0) System.exit(1);
  }

  /** Feeds a text with blanks behind it up to whole twenties. */
  static void feed(SwarmHouse h, String text) {
    for (int at = 0; at < text.length(); at += 20) {
      int[] n = new int[5];
      for (int i = 0; i < 20; i++) {
        char sign = at + i < text.length() ? text.charAt(at + i) : ' ';
        n[i / 4] = n[i / 4] << 8 | sign & 255;
      }
      h.feed(n[0], n[1], n[2], n[3], n[4]);
    }
  }

  static int feedBlanks(SwarmHouse h) { return h.feed(BLANKS, BLANKS, BLANKS, BLANKS, BLANKS); }

  static int tell(SwarmHouse h, String text) {
    feed(h, text);
    return h.field(text.length());
  }

  /** A text that must be without a FAULT. */
  static void set(SwarmHouse h, String text) {
    int parts = tell(h, text);
    if (parts < 0) due("field of " + text, parts, 0);
  }

  static SwarmHouse with(String text) {
    SwarmHouse h = new SwarmHouse();
    set(h, text);
    return h;
  }

  /** A text without a FAULT. */
  static void fine(String text, int parts) {
    SwarmHouse h = new SwarmHouse();
    due("field of " + text, tell(h, text), parts);
    due("fault(0) of " + text, h.fault(0), 0);
    due("fault(1) of " + text, h.fault(1), -1);
    due("count(0) of " + text, h.count(0), parts);
  }

  /** A text with a FAULT at a place. */
  static void fault(String text, int kind, int place) {
    SwarmHouse h = new SwarmHouse();
    due("field of " + text, tell(h, text), -1);
    due("fault(0) of " + text, h.fault(0), kind);
    due("fault(1) of " + text, h.fault(1), place);
  }

  /** An ORBIT in no FIELD that stays where it is. */
  static int rest(SwarmHouse h, int x, int y) { return h.orbit(x, y, 0, 0); }
}
