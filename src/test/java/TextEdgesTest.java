import java.util.List;

/** The boundary cases of the TAPE, of TEXTS and of their FAULTS: promises 1 to 4, and part 1 of the terms. */
public final class TextEdgesTest {
  private static final String[] SIGNS = {"+", "-", "*", "/", "<", "<=", "=", "<>", ">=", ">"};
  private static final String[] NAMES = {"near", "far", "turns", "sort", "gone", "returns"};
  private static final String[] PARTS = {"heap 0 0 1 1;", "disc 1 1;", "halo 1 1;", "halo 1..2 1;", "bar 1 1 1;", "guest 0 0 0 0 1 1;"};

  // ---- promise 1 ----

  private static void newObject() {
    Edge.says("promise 1", "No FIELD, ORBITS, NOTES; an empty TAPE.");
    SwarmHouse h = new SwarmHouse();
    Edge.due("PARTS", h.count(0), 0);
    Edge.due("KNOTS", h.count(6), 0);
    Edge.due("ORBITS", h.count(1), 0);
    Edge.due("told(0, 0)", h.told(0, 0), Edge.NO_LONG);
    Edge.due("NOTES", h.count(2), 0);
    Edge.due("fits(1)", h.fits(1), -1);
    Edge.due("strike(0)", h.strike(0), -1);
    Edge.due("a byte of the TAPE", h.field(1), -2);
    Edge.due("the first feed", Edge.feedBlanks(h), 20);
    SwarmHouse used = Edge.with("disc 1 1; use 1;");
    used.orbit(0, 0, 0, 0);
    used.sight(0, 0, 0, 0);
    Edge.feedBlanks(used);
    SwarmHouse other = new SwarmHouse();
    for (int what : new int[] {0, 1, 2, 6}) Edge.due("count(" + what + ") beside another object", other.count(what), 0);
    Edge.due("the TAPE beside another object", other.field(1), -2);
    Edge.says("terms 1", "Without a FIELD there are no PARTS.");
    for (int what = 0; what < 6; what++) Edge.due("pull of what " + what, new SwarmHouse().pull(1, 1, 0, what), 0);
    Edge.due("tune without a bar", used.tune(0, 1, 1), false);
    Edge.says("what it is", "An object is used for at most 512 calls");
    SwarmHouse long512 = new SwarmHouse();
    for (int i = 0; i < 510; i++) long512.length(10 + i % 200);
    Edge.due("call 511", long512.length(240), true);
    Edge.due("call 512", long512.count(7), 240);
  }

  // ---- promise 2 ----

  private static void feedBytes() {
    Edge.says("promise 2", "Twenty bytes come behind the TAPE, four of each number, the highest first");
    for (int at = 0; at < 20; at++) {
      for (int sign : new int[] {'?', 128, 255}) {
        int[] n = {0x20202020, 0x20202020, 0x20202020, 0x20202020, 0x20202020};
        int shift = 24 - at % 4 * 8;
        n[at / 4] = n[at / 4] & ~(255 << shift) | sign << shift;
        SwarmHouse h = new SwarmHouse();
        Edge.feedBlanks(h);
        h.feed(n[0], n[1], n[2], n[3], n[4]);
        Edge.due("field with a byte " + sign, h.field(40), -1);
        Edge.due("the place of a byte " + sign, h.fault(1), 20 + at);
      }
    }
  }

  private static void feedUpTo500() {
    Edge.says("promise 2", "how many it has; NONE, and none come, if it would have more than 500");
    SwarmHouse h = new SwarmHouse();
    for (int i = 1; i <= 25; i++) Edge.due("feed " + i, Edge.feedBlanks(h), 20 * i);
    Edge.due("feed beyond 500", h.feed(0x3f3f3f3f, 0x3f3f3f3f, 0x3f3f3f3f, 0x3f3f3f3f, 0x3f3f3f3f), -1);
    Edge.due("and once more", h.feed(Edge.NO, Edge.MAX, -1, 0, 1), -1);
    Edge.due("none came", h.field(501), -2);
    Edge.due("all 500 are as they were", h.field(500), 0);
    Edge.due("feed behind it", Edge.feedBlanks(h), 20);
    SwarmHouse last = new SwarmHouse();
    for (int i = 1; i < 25; i++) Edge.feedBlanks(last);
    Edge.due("the feed up to 500", last.feed(0x20202020, 0x20202020, 0x20202020, 0x20202020, 0x2020203f), 500);
    last.feed(0x3f3f3f3f, 0, 0, 0, 0);
    Edge.due("its last byte is read", last.field(500), -1);
    Edge.due("the place of its last byte", last.fault(1), 499);
  }

  // ---- promise 3 ----

  private static void fieldOfTape() {
    Edge.says("promise 3", "The TAPE's first n bytes (it is empty then) are THE FIELD from now on");
    SwarmHouse h = new SwarmHouse();
    Edge.due("field(0) of an empty TAPE", h.field(0), 0);
    Edge.feed(h, "disc 1 1;disc 1 1;  ");
    Edge.due("the first nine", h.field(9), 1);
    Edge.due("it is empty then", h.field(1), -2);
    Edge.due("feed on it", Edge.feedBlanks(h), 20);
    Edge.due("field(0) of 20 bytes", h.field(0), 0);
    Edge.due("THE FIELD has no PARTS now", h.count(0), 0);
    Edge.due("it is empty then, too", h.field(1), -2);
    Edge.feed(h, "disc 1 1;?          ");
    Edge.due("up to the one that is none", h.field(9), 1);
    Edge.feed(h, "disc 1 1;?          ");
    Edge.due("and with it", h.field(10), -1);
    Edge.due("it is empty behind a FAULT", h.field(1), -2);
    Edge.feed(h, "           disc 1 1;");
    Edge.due("all of its bytes", h.field(20), 1);
    for (String much : new String[] {"disc 100000 1;", "use 100000;", "heap 10000 1 1 1;"}) {
      Edge.due("a number that is too much", Edge.tell(h, much), -1);
      Edge.due("it is no number of the next text", Edge.tell(h, "use near;"), 0);
      Edge.due("its FAULT", h.fault(0), 0);
    }
  }

  private static void fieldRefused() {
    Edge.says("promise 3", "-2, and the TAPE stays: there are not so many, n is below 0");
    for (int n : new int[] {21, 22, 500, 501, Edge.MAX, -1, -2, -20, Edge.NO}) {
      SwarmHouse h = Edge.with("halo 5..9 1; use 1;");
      h.mass(8);
      Edge.tell(h, "disc 1;");
      Edge.feed(h, "disc 6 1;disc 6 1;  ");
      Edge.due("field(" + n + ") of 20", h.field(n), -2);
      Edge.due("the PARTS stay", h.count(0), 1);
      Edge.due("THE MASS stays", h.count(3), 8);
      Edge.due("the SPAN stays", h.count(5), 9);
      Edge.due("the use stays", h.count(6), 1);
      Edge.due("the FAULT stays", h.fault(0), 1);
      Edge.due("its place stays", h.fault(1), 6);
      Edge.due("the TAPE has 20 yet", Edge.feedBlanks(h), 40);
      Edge.due("and they are the same", h.field(40), 2);
      Edge.due("as their PULL shows", h.pull(0, 1, 0, 1), -12);
    }
    SwarmHouse empty = new SwarmHouse();
    Edge.due("field(1) of none", empty.field(1), -2);
    Edge.due("field(-1) of none", empty.field(-1), -2);
  }

  private static void fieldMass() {
    Edge.says("promise 3", "(THE MASS as at first): how many PARTS");
    SwarmHouse h = Edge.with("halo 5..9 1;");
    h.mass(9);
    Edge.due("the same text again", Edge.tell(h, "halo 5..9 1;"), 1);
    Edge.due("THE MASS", h.count(3), 5);
    for (int parts = 0; parts <= 8; parts++) Edge.fine("disc 1 1;".repeat(parts), parts);
    Edge.says("promise 3", "NONE with a FAULT");
    h.mass(7);
    Edge.due("a FAULT", Edge.tell(h, "halo 1..2 1; disc 1 1; use 1; ?"), -1);
    int[] want = {1, 0, 0, 7, 5, 9, 0};
    for (int what = 0; what < want.length; what++) Edge.due("count(" + what + ") of the FIELD before", h.count(what), want[what]);
  }

  // ---- promise 4 ----

  private static void faultTold() {
    Edge.says("promise 4", "Of the latest field() that was not -2, what 0: its FAULT (0), 1: its place (NONE). NONE for another what.");
    SwarmHouse h = new SwarmHouse();
    Edge.due("before any field()", h.fault(0), 0);
    Edge.due("its place", h.fault(1), -1);
    Edge.tell(h, "  use 1; use 2;");
    Edge.due("a FAULT", h.fault(0), 3);
    Edge.due("its place", h.fault(1), 9);
    for (int what : new int[] {-1, 2, 3, Edge.NO, Edge.MAX}) Edge.due("fault(" + what + ") with a FAULT", h.fault(what), -1);
    h.field(1);
    Edge.due("behind -2", h.fault(0), 3);
    Edge.due("its place behind -2", h.fault(1), 9);
    Edge.tell(h, "?");
    Edge.due("the latest one", h.fault(0), 1);
    Edge.due("at place 0", h.fault(1), 0);
    Edge.tell(h, "use 1;");
    Edge.due("none", h.fault(0), 0);
    Edge.due("the place of none", h.fault(1), -1);
    for (int what : new int[] {-1, 2, Edge.NO, Edge.MAX}) Edge.due("fault(" + what + ") without one", h.fault(what), -1);
  }

  // ---- terms 1: TEXT and TOKENS ----

  private static void lines() {
    Edge.says("terms 1", "THE FIELD, a TEXT: { LINE ';' }.");
    Edge.fine("", 0);
    Edge.fine(" \n ", 0);
    for (String line : PARTS) {
      Edge.fine(line, 1);
      Edge.fault(line.substring(0, line.length() - 1), 1, line.length() - 1);
      Edge.fault(line + ";", 1, line.length());
      Edge.fault(line.replace(";", " 1;"), 1, line.length());
      Edge.fault(line.replace(" 1;", ";"), 1, line.length() - 3);
      Edge.fault(line.replace(";", " disc 1 1;"), 1, line.length());
    }
    Edge.fault(";", 1, 0);
    Edge.fault("1;", 1, 0);
    Edge.fault("near;", 1, 0);
    Edge.fault("or;", 1, 0);
    Edge.fine("use 1;", 0);
    Edge.fault("use 1", 1, 5);
    Edge.fault("use 1;;", 1, 6);
    Edge.fault("use;", 1, 3);
  }

  private static void signsBeforeNumbers() {
    Edge.says("terms 1", "X, Y, U, V: [ '-' ] N. N: digits.");
    Edge.fine("heap -1 -1 1 1; guest -1 -1 -1 -1 1 1;", 2);
    Edge.fine("heap - 1 -\n1 1 1;", 1);
    Edge.fine("heap -0 -00 1 1;", 1);
    Edge.fault("heap --1 1 1 1;", 1, 6);
    Edge.fault("heap +1 1 1 1;", 1, 5);
    Edge.fault("heap 1 - 1;", 1, 10);
    Edge.fault("heap 1 1 -1 1;", 1, 9);
    Edge.fault("heap 1 1 1 -1;", 1, 11);
    Edge.fault("disc -1 1;", 1, 5);
    Edge.fault("disc 1 -1;", 1, 7);
    Edge.fault("halo -1 1;", 1, 5);
    Edge.fault("halo 1..-1 1;", 1, 8);
    Edge.fault("halo 1..1 -1;", 1, 10);
    Edge.fault("bar 1 1 -1;", 1, 8);
    Edge.fault("guest 1 1 1 1 -1 1;", 1, 14);
    Edge.fault("use -1;", 1, 4);
    Edge.fine("disc 0000000000000000000000000000000099999 000000000000000009999;", 1);
    Edge.fault("disc 1a 1;", 1, 6);
  }

  /** A place for a number in a line ('@'), with the least and the greatest that is taken there. */
  private static void numberIn(String line, int low, int high) {
    int at = line.indexOf('@');
    Edge.fine(line.replace("@", "" + low), line.startsWith("use") ? 0 : 1);
    Edge.fine(line.replace("@", "" + high), line.startsWith("use") ? 0 : 1);
    Edge.fault(line.replace("@", "" + (high + 1)), 2, at);
    Edge.fault(line.replace("@", "" + high + "0"), 2, at);
    // Beyond an int and a long, and so that a lost carry would bring it back among the small ones.
    for (String much : List.of("2147483648", "4294967296", "4294967297", "18446744073709551616", "18446744073709551617")) {
      Edge.fault(line.replace("@", much), 2, at);
    }
    if (low < 0) {
      Edge.fault(line.replace("@", "" + (low - 1)), 2, at + 1);
    } else if (low > 0) {
      Edge.fault(line.replace("@", "0"), 2, at);
    }
    Edge.fault(line.replace("@", "?"), 1, at);
    Edge.fault(line.replace("@", "near heap"), 1, line.startsWith("use") ? at + 5 : at);
  }

  private static void numbers() {
    Edge.says("terms 1", "X, Y up to 9999");
    for (String line : List.of("heap @ 0 1 1;", "heap 0 @ 1 1;", "guest @ 0 0 0 1 1;", "guest 0 @ 0 0 1 1;")) numberIn(line, -9999, 9999);
    Edge.says("terms 1", "U, V up to 99 (either way)");
    for (String line : List.of("guest 0 0 @ 0 1 1;", "guest 0 0 0 @ 1 1;")) numberIn(line, -99, 99);
    Edge.says("terms 1", "M 0 .. 99999");
    for (String line : List.of("heap 0 0 @ 1;", "disc @ 1;", "halo @ 1;", "halo 0..@ 1;", "halo @..99999 1;", "bar @ 1 1;", "guest 0 0 0 0 @ 1;")) {
      numberIn(line, 0, 99999);
    }
    Edge.says("terms 1", "S 1 .. 9999");
    for (String line : List.of("heap 0 0 1 @;", "disc 1 @;", "halo 1 @;", "halo 0..1 @;", "bar 1 @ 1;", "guest 0 0 0 0 1 @;")) numberIn(line, 1, 9999);
    Edge.says("terms 1", "T 1 .. 99");
    numberIn("bar 1 1 @;", 1, 99);
    Edge.says("terms 1", "P: N (0 .. 99999)");
    numberIn("use @;", 0, 99999);
    numberIn("use 1 + @;", 0, 99999);
    numberIn("use (@);", 0, 99999);
    Edge.says("terms 1", "a halo's second M below its first");
    Edge.fine("halo 5..5 1;", 1);
    Edge.fault("halo 5..4 1;", 2, 8);
    Edge.fine("halo 0..0 1;", 1);
    Edge.fine("halo 99999..99999 1;", 1);
    Edge.fault("halo 99999..99998 1;", 2, 12);
    Edge.fault("halo 1..0 1;", 2, 8);
  }

  private static void words() {
    Edge.says("terms 1", "Words are small letters in a row");
    for (String word : List.of("heap", "disc", "halo", "bar", "guest", "use")) {
      Edge.fault(word.toUpperCase() + " 1;", 1, 0);
      Edge.fault(word.substring(0, word.length() - 1) + " 1;", 1, 0);
      Edge.fault(word + "s 1;", 1, 0);
      Edge.fault(word.charAt(0) + " " + word.substring(1) + " 1;", 1, 0);
      Edge.fault(word + word + " 1;", 1, 0);
    }
    for (String name : NAMES) {
      Edge.fine("use " + name + ";", 0);
      Edge.fault("use " + name.substring(0, name.length() - 1) + ";", 1, 4);
      for (String letter : List.of("a", "x", "z")) {
        Edge.fault("use " + name + letter + ";", 1, 4);
        Edge.fault("use " + letter + name + ";", 1, 4);
      }
      Edge.fault("use " + name.toUpperCase() + ";", 1, 4);
    }
    Edge.fine("heap0-0 1 1;disc1 1;use1and not2or(far)<near;", 2);
    Edge.fault("use 1 andnot 2;", 1, 6);
    Edge.fault("use notnear;", 1, 4);
    Edge.fault("use aaaaaaaaaaaaaaaaaaaaaaaaaaaaaaaaaaaa;", 1, 4);
    Edge.fault("use z;", 1, 4);
    Edge.fault("use 1 xor 2;", 1, 6);
  }

  private static void blanks() {
    Edge.says("terms 1", "blanks 10, 32");
    for (int sign = 0; sign < 256; sign++) {
      String one = "" + (char) sign;
      if (sign == 10 || sign == 32) {
        Edge.fine(one, 0);
        Edge.fine("disc" + one + "1" + one + one + "1" + one + ";" + one, 1);
      } else {
        Edge.fault(one, 1, 0);
        Edge.fault("disc 1 1;" + one, 1, 9);
      }
      boolean between = sign != 10 && sign != 32 && (sign < '0' || sign > '9') && (sign < 'a' || sign > 'z');
      if (between) Edge.fault("disc" + one + "1 1;", 1, 4);
    }
  }

  private static void doubleSigns() {
    Edge.says("terms 1", "A = (or > behind <) right behind < or > belongs to it");
    for (String sign : SIGNS) Edge.fine("use 1" + sign + "2;", 0);
    Edge.fault("use 1 < = 2;", 1, 8);
    Edge.fault("use 1 > = 2;", 1, 8);
    Edge.fault("use 1 < > 2;", 1, 8);
    Edge.fault("use 1 >< 2;", 1, 7);
    Edge.fault("use 1 << 2;", 1, 7);
    Edge.fault("use 1 >> 2;", 1, 7);
    Edge.fault("use 1 == 2;", 1, 7);
    Edge.fault("use 1 =< 2;", 1, 7);
    Edge.fault("use 1 => 2;", 1, 7);
    Edge.fault("use 1 <=> 2;", 1, 8);
    Edge.fault("use 1 <>= 2;", 1, 8);
    Edge.fault("use 1 >== 2;", 1, 8);
    Edge.fault("use 1 <\n> 2;", 1, 8);
    Edge.says("terms 1", "two . are one TOKEN");
    Edge.fine("halo 1..2 1;", 1);
    Edge.fine("halo 1 .. 2 1;", 1);
    Edge.fault("halo 1 . 2 1;", 1, 7);
    Edge.fault("halo 1. .2 1;", 1, 6);
    Edge.fault("halo 1...2 1;", 1, 8);
    Edge.fault("halo 1....2 1;", 1, 8);
    Edge.fault("halo ..2 1;", 1, 5);
    Edge.fault("halo 1.. 1;", 1, 10);
  }

  // ---- terms 1: E ----

  private static void expressions() {
    Edge.says("terms 1", "E: A { or A }. A: B { and B }. B: not B | C. C: V [ ( < | <= | = | <> | >= | > ) V ]. V: W { ( + | - ) W }. W: P { ( * | / ) P }.");
    Edge.fine("use not not 1 or not 2 and 3 or 4;", 0);
    Edge.fault("use 1 or or 2;", 1, 9);
    Edge.fault("use or 1;", 1, 4);
    for (String sign : new String[] {"or", "and", "+", "-", "*", "/", "<", "<=", "=", "<>", ">=", ">"}) {
      Edge.fault("use " + sign + " " + sign + " 1;", 1, 4);
      Edge.fault("use " + sign + " 1 " + sign + " " + sign + " 1;", 1, 4);
      Edge.fault("use not " + sign + " or " + sign + " 1;", 1, 8);
      Edge.fault("use (" + sign + " 1) and " + sign + " 1;", 1, 5);
    }
    Edge.fault("use and 1;", 1, 4);
    Edge.fault("use 1 and;", 1, 9);
    Edge.fault("use not;", 1, 7);
    Edge.fault("use 1 not 2;", 1, 6);
    Edge.fine("use 1 and not 2 = 3;", 0);
    for (String first : new String[] {"<", "<=", "=", "<>", ">=", ">"}) {
      Edge.fault("use " + first + " 1;", 1, 4);
      Edge.fault("use 1" + first + ";", 1, 5 + first.length());
      Edge.fault("use 1 = 2 " + first + " 3;", 1, 10);
      Edge.fine("use (1 = 2) " + first + " 3;", 0);
      Edge.fault("use (1 = 2 " + first + " 3);", 1, 11);
      Edge.fault("use 1 = (2 " + first + " 3 = 4);", 1, 14 + first.length());
      Edge.fault("use 1 " + first + " not 2;", 1, 7 + first.length());
      Edge.fine("use 1 " + first + " (not 2);", 0);
    }
    for (String sign : new String[] {"+", "-", "*", "/"}) {
      Edge.fault("use " + sign + "1;", 1, 4);
      Edge.fault("use 1" + sign + ";", 1, 6);
      Edge.fault("use 1" + sign + sign + "2;", 1, 6);
      Edge.fault("use 1" + sign + "not 2;", 1, 6);
      Edge.fine("use 1" + sign + "2" + sign + "3;", 0);
    }
    Edge.says("terms 1", "P: N (0 .. 99999) | NAME | '(' E ')'.");
    Edge.fault("use ();", 1, 5);
    Edge.fault("use (1;", 1, 6);
    Edge.fault("use 1);", 1, 5);
    Edge.fault("use (1));", 1, 7);
    Edge.fault("use 1 2;", 1, 6);
    Edge.fault("use near far;", 1, 9);
    Edge.fault("use 1 (2);", 1, 6);
    Edge.fault("use (1) 2;", 1, 8);
    Edge.fault("use heap;", 1, 4);
    Edge.fault("use use;", 1, 4);
    Edge.fault("use 1..2;", 1, 5);
  }

  private static void open() {
    Edge.says("terms 1", "a ninth '(' open");
    for (int deep = 1; deep <= 8; deep++) Edge.fine("use " + "(".repeat(deep) + "1" + ")".repeat(deep) + ";", 0);
    Edge.fault("use " + "(".repeat(9) + "1" + ")".repeat(9) + ";", 2, 12);
    Edge.fault("use " + "(".repeat(20), 2, 12);
    Edge.fine("use " + "(1)+".repeat(9) + "(1);", 0);
    Edge.fine("use " + "(".repeat(8) + "1" + ")".repeat(8) + "+" + "(".repeat(8) + "1" + ")".repeat(8) + ";", 0);
    Edge.fault("use " + "(".repeat(8) + "1" + ")".repeat(7) + "+" + "(".repeat(8) + "1", 2, 28);
    Edge.fine("use " + "(not ".repeat(8) + "1" + ")".repeat(8) + ";", 0);
    Edge.fault("use " + "(not ".repeat(8) + "(1", 2, 44);
  }

  private static void knots(String text, int want) {
    SwarmHouse h = Edge.with(text);
    Edge.due("KNOTS of " + text, h.count(6), want);
  }

  private static void knotsCounted() {
    Edge.says("terms 1", "(in E: N, NAMES, signs, not, and, or: one each)");
    knots("disc 1 1;", 0);
    knots("use 1;", 1);
    knots("use not 1;", 2);
    knots("use 1 and 1;", 3);
    knots("use 1 or 1;", 3);
    knots("use ((((1))));", 1);
    for (String name : NAMES) knots("use " + name + ";", 1);
    for (String sign : SIGNS) knots("use 1 " + sign + " 1;", 3);
    knots("disc 1 1; use 12345; halo 1..2 3;", 1);
  }

  /** 46, 47 or 48 KNOTS, the last of which is a number. */
  private static String sums(int knots) { return (knots % 2 == 0 ? "use not 1" : "use 1") + "+1".repeat((knots - 1) / 2); }

  private static void knotsUpTo48() {
    Edge.says("terms 1", "a 49th KNOT");
    knots(sums(47) + ";", 47);
    knots(sums(48) + ";", 48);
    knots(sums(46).replace("1+", "((((((((1))))))))+") + ";", 46);
    for (String sign : SIGNS) {
      knots(sums(46) + " " + sign + " 1;", 48);
      Edge.fault(sums(48) + " " + sign + " 1;", 2, sums(48).length() + 1);
      Edge.fault(sums(47) + " " + sign + " 1;", 2, sums(47).length() + sign.length() + 2);
    }
    for (String word : new String[] {"and", "or"}) {
      knots(sums(46) + " " + word + " 1;", 48);
      Edge.fault(sums(48) + " " + word + " 1;", 2, sums(48).length() + 1);
      Edge.fault(sums(47) + " " + word + " not 1;", 2, sums(47).length() + word.length() + 2);
      knots(sums(45) + " " + word + " not 1;", 48);
    }
    for (String name : NAMES) {
      knots(sums(46) + "-" + name + ";", 48);
      Edge.fault(sums(47) + "-" + name + ";", 2, sums(47).length() + 1);
    }
    knots("use " + "not ".repeat(47) + "1;", 48);
    Edge.fault("use " + "not ".repeat(48) + "1;", 2, 4 + 4 * 48);
    Edge.fault("use " + "not ".repeat(49) + "1;", 2, 4 + 4 * 48);
    knots("use " + "not ".repeat(47) + "((((((((1))))))));", 48);
  }

  // ---- terms 1: FAULTS ----

  private static void firstFault() {
    Edge.says("terms 1", "FAULTS, the first along the text (of one place the least), with its place");
    // the first along the text, whatever its number
    Edge.fault("use 1; use 2; ?", 3, 7);
    Edge.fault("disc 100000 1; ?", 2, 5);
    Edge.fault("? disc 100000 1;", 1, 0);
    Edge.fault("halo 2..1 0; use 1; use 1;", 2, 8);
    Edge.fault("halo 1..2 1; halo 1..0 0;", 3, 19);
    Edge.fault("halo 1..2 1; halo 100000..0 0;", 2, 18);
    Edge.fault("disc 100000 ?", 2, 5);
    Edge.fault("disc 100000", 2, 5);
    // of one place the least: 1 ahead of 2
    Edge.fault("disc 1 1 100000;", 1, 9);
    Edge.fault("100000;", 1, 0);
    Edge.fault("use 1 100000;", 1, 6);
    Edge.fault("halo 1..2 3 0;", 1, 12);
    Edge.fault("disc 1 1;".repeat(8) + "use disc;", 1, 76);
    Edge.fault("disc 1 1;".repeat(8) + "near;", 1, 72);
    Edge.fault("use ((((((((1(", 1, 13);
    Edge.fault("use ((((((((1+)", 1, 14);
    Edge.fault(sums(48) + " near;", 1, sums(48).length() + 1);
    Edge.fault(sums(48) + " 1;", 1, sums(48).length() + 1);
    Edge.fault(sums(48) + " not 1;", 1, sums(48).length() + 1);
    Edge.fault(sums(47) + "+ and 1;", 1, sums(47).length() + 2);
    Edge.fault(sums(47) + "+ + 1;", 1, sums(47).length() + 2);
    Edge.fault(sums(47) + "+ not 1;", 1, sums(47).length() + 2);
    Edge.fault(sums(46) + "= 1 = 1;", 1, sums(46).length() + 4);
    Edge.fault(sums(47) + "+100000;", 2, sums(47).length() + 1);
    // 1 ahead of 3
    Edge.fault("use 1; disc use", 1, 12);
    Edge.fault("use 1 use 2;", 1, 6);
    Edge.fault("halo 1..2 3; disc 1..2 3;", 1, 19);
    Edge.fault("halo 1..2..3 4;", 1, 9);
    Edge.fault("halo 1..2 3; use 1..2;", 1, 18);
  }

  private static void tokens() {
    Edge.says("terms 1", "1 a TOKEN that is none (another word, too) or can't stand there (the length, if more must come)");
    // Cut behind each TOKEN: more must come, blanks or not.
    String[] whole = {
      "heap 1 -1 1 1 ;", "disc 1 1 ;", "halo 1 1 ;", "halo 1 .. 2 1 ;", "bar 1 1 1 ;", "guest - 1 1 1 1 1 1 ;",
      "use not ( near + 2 ) * 3 <= far and turns or 1 / sort - gone <> returns ;"};
    for (String line : whole) {
      for (int n = 1; n < line.length() - 1; n++) {
        if (line.charAt(n) != ' ') continue;
        Edge.fault(line.substring(0, n), 1, n);
        Edge.fault(line.substring(0, n) + " ", 1, n + 1);
        Edge.fault(line.substring(0, n) + "\n \n", 1, n + 3);
        Edge.fault("disc 1 1;" + line.substring(0, n), 1, n + 9);
        Edge.fault(line.substring(0, n) + " %", 1, n + 1);
        Edge.fault(line.substring(0, n) + " swarm", 1, n + 1);
      }
    }
    SwarmHouse h = new SwarmHouse();
    Edge.feed(h, "disc 1 12;");
    Edge.due("cut in a number", h.field(8), -1);
    Edge.due("the length", h.fault(1), 8);
    Edge.feed(h, "halo 1..2 1;");
    Edge.due("cut between two .", h.field(7), -1);
    Edge.due("the place of the first", h.fault(1), 6);
    Edge.feed(h, "use 1 <= 1;");
    Edge.due("cut behind <", h.field(7), -1);
    Edge.due("the length", h.fault(1), 7);
    Edge.feed(h, "use near;");
    Edge.due("cut in a word", h.field(7), -1);
    Edge.due("the word's place", h.fault(1), 4);
  }

  private static void parts() {
    Edge.says("terms 1", "At most 8 PARTS (all but use).");
    String eight = "disc 1 1;".repeat(8);
    Edge.fine(eight, 8);
    Edge.fine("use 1;" + eight, 8);
    Edge.fine("disc 1 1;use 1;" + "disc 1 1;".repeat(7), 8);
    Edge.fine(eight + "use 1;", 8);
    Edge.says("terms 1", "a ninth PART (at its word)");
    for (String ninth : PARTS) {
      Edge.fault(eight + ninth, 2, 72);
      Edge.fault(eight + "use 1;  " + ninth, 2, 80);
      Edge.fault(ninth.repeat(9).replace("..2", ""), 2, 8 * ninth.replace("..2", "").length());
    }
    Edge.fault(eight + "disc", 2, 72);
    Edge.fault(eight + "disc ?", 2, 72);
    Edge.says("terms 1", "3 a second use, a second halo with '..' (at use, at '..')");
    Edge.fine("use 1;", 0);
    Edge.fault("use 1;use 1;", 3, 6);
    Edge.fault("use 1;disc 1 1;\nuse", 3, 16);
    Edge.fine("halo 1..2 1; halo 1 1; halo 2 2;", 3);
    Edge.fine("halo 1 1; halo 2 2; halo 1..2 1;", 3);
    Edge.fault("halo 1..2 1; halo 1..2 1;", 3, 19);
    Edge.fault("halo 1..2 1; halo 1 ..", 3, 20);
    Edge.fault("halo 1..2 1; halo 1 1; halo 7 .. ?", 3, 30);
  }

  public static void main(String[] args) {
    newObject();
    feedBytes();
    feedUpTo500();
    fieldOfTape();
    fieldRefused();
    fieldMass();
    faultTold();
    lines();
    signsBeforeNumbers();
    numbers();
    words();
    blanks();
    doubleSigns();
    expressions();
    open();
    knotsCounted();
    knotsUpTo48();
    firstFault();
    tokens();
    parts();
    Edge.end();
  }
}
