import java.lang.reflect.InvocationTargetException;
import java.lang.reflect.Method;
import java.util.ArrayList;
import java.util.List;
import java.util.Random;

/** Random runs of calls, the same ones each time, on a SwarmHouse and on the plain one: every answer must be the same. */
public final class AgainstPlainTest {
  private static final int[] EDGES = {Integer.MIN_VALUE, Integer.MAX_VALUE, -1, 0, 1, 2, 63, 64, 240, 241, -240, -241, 999, 1000, 9999, 10000, 20000, 20001};

  private final Random random;
  private final SwarmHouse house = new SwarmHouse();
  private final PlainHouse plain = new PlainHouse();
  private final List<String> told = new ArrayList<>();
  private boolean wrong = false;

  /** Neighbouring seeds of Random begin alike, so they are set far apart. */
  private AgainstPlainTest(long seed) { random = new Random(seed * 0x9E3779B97F4A7C15L); }

  public static void main(String[] args) {
    int runs = args.length > 0 ? Integer.parseInt(args[0]) : 1500;
    long from = args.length > 1 ? Long.parseLong(args[1]) : 1;
    int failed = 0;
    for (long seed = from; seed < from + runs && failed < 5; seed++) {
      AgainstPlainTest run = new AgainstPlainTest(seed);
      run.go();
      if (run.wrong) {
        failed++;
        System.out.println("run by seed " + seed + ":");
        for (String line : run.told) System.out.println("  " + line);
      }
    }
    if (failed > 0) System.exit(1);
  }

  private void go() {
    int kind = random.nextInt(4);
    if (kind == 0) {
      for (int i = 0; i < 40 && !wrong; i++) faultyText();
      return;
    }
    setUp();
    for (int i = 0; i < 60 && !wrong; i++) anyCall();
  }

  private void call(String name, Object... args) {
    if (wrong) return;
    Object a = answer(house, SwarmHouse.class, name, args);
    Object b = answer(plain, PlainHouse.class, name, args);
    StringBuilder line = new StringBuilder(name).append('(');
    for (int i = 0; i < args.length; i++) line.append(i == 0 ? "" : ", ").append(args[i]);
    line.append(") answered ").append(a);
    if (!a.equals(b)) {
      wrong = true;
      line.append(", the plain one ").append(b);
    }
    told.add(line.toString());
  }

  private static Object answer(Object on, Class<?> of, String name, Object[] args) {
    Class<?>[] types = new Class<?>[args.length];
    for (int i = 0; i < args.length; i++) {
      types[i] = args[i] instanceof Integer ? int.class : args[i] instanceof Long ? long.class : boolean.class;
    }
    try {
      Method m = of.getDeclaredMethod(name, types);
      return m.invoke(on, args);
    } catch (InvocationTargetException e) {
      return "threw " + e.getCause();
    } catch (ReflectiveOperationException e) {
      throw new IllegalStateException(e);
    }
  }

  private int upTo(int most) { return random.nextInt(most + 1); }

  private int around(int most) { return random.nextInt(2 * most + 1) - most; }

  private int odd(int ordinary) { return random.nextInt(30) == 0 ? EDGES[random.nextInt(EDGES.length)] : ordinary; }

  // ---- texts ----

  private void put(String text) {
    told.add("-- " + text);
    StringBuilder padded = new StringBuilder(text);
    while (padded.length() % 20 != 0) padded.append(' ');
    for (int at = 0; at < padded.length(); at += 20) {
      Object[] five = new Object[5];
      for (int i = 0; i < 5; i++) {
        int n = 0;
        for (int k = 0; k < 4; k++) n = n << 8 | padded.charAt(at + 4 * i + k) & 255;
        five[i] = n;
      }
      call("feed", five);
    }
    call("field", text.length());
    call("fault", 0);
    call("fault", 1);
    for (int what = 0; what <= 6; what++) if (what == 0 || what > 2) call("count", what);
  }

  private void faultyText() {
    StringBuilder text = new StringBuilder();
    boolean many = random.nextInt(8) == 0;
    int lines = random.nextInt(many ? 12 : 4);
    for (int i = 0; i < lines; i++) text.append(line(!many)).append(random.nextBoolean() ? ";" : " ;\n");
    int changes = random.nextInt(3);
    String signs = "().;<>=+-*/ \n0123456789abz%\t\u00e4";
    for (int i = 0; i < changes && text.length() > 0; i++) {
      int at = random.nextInt(text.length());
      char sign = signs.charAt(random.nextInt(signs.length()));
      switch (random.nextInt(4)) {
        case 0: text.deleteCharAt(at); break;
        case 1: text.insert(at, sign); break;
        case 2: text.setCharAt(at, sign); break;
        default: text.setLength(at); break;
      }
    }
    if (text.length() > 480) text.setLength(480);
    put(text.toString());
    if (random.nextInt(4) == 0) call("pull", around(300), around(300), upTo(240), upTo(1));
    if (random.nextInt(9) == 0) call("feed", 1, 2, 3, 4, 5);
    if (random.nextInt(9) == 0) call("field", random.nextInt(60) - 10);
  }

  private String number(int low, int high, boolean faulty) {
    if (faulty && random.nextInt(25) == 0) {
      return random.nextBoolean() ? "" + (high + 1) : low > 0 ? "0" : "99999999999999999999";
    }
    int n = switch (random.nextInt(6)) {
      case 0 -> low;
      case 1 -> high;
      default -> low + random.nextInt(high - low + 1);
    };
    return (random.nextInt(12) == 0 ? "00" : "") + n;
  }

  private String signed(int limit, boolean faulty) { return (random.nextBoolean() ? "-" : "") + number(0, limit, faulty); }

  private String line(boolean faulty) {
    String s = number(1, random.nextBoolean() ? 300 : 9999, faulty);
    String m = number(0, 99999, faulty);
    int place = random.nextBoolean() ? 500 : 9999;
    switch (random.nextInt(6)) {
      case 0: return "heap " + signed(place, faulty) + " " + signed(place, faulty) + " " + m + " " + s;
      case 1: return "disc " + m + " " + s;
      case 2: return random.nextBoolean() ? "halo " + m + " " + s : "halo " + span(faulty) + " " + s;
      case 3: return "bar " + m + " " + s + " " + number(1, 99, faulty);
      case 4: return "guest " + signed(place, faulty) + " " + signed(place, faulty) + " " + signed(99, faulty) + " " + signed(99, faulty) + " " + m + " " + s;
      default: return "use " + expression(random.nextInt(faulty ? 7 : 4));
    }
  }

  private String span(boolean faulty) {
    int low = upTo(random.nextBoolean() ? 90000 : 300);
    int high = low + upTo(random.nextBoolean() ? 9000 : 60);
    if (faulty && random.nextInt(15) == 0) high = low - 1;
    return low + (random.nextBoolean() ? ".." : " .. ") + high;
  }

  private String expression(int deep) {
    String[] names = {"near", "far", "turns", "sort", "gone", "returns"};
    String[] joins = {" or ", " and ", "<", "<=", " =", "<> ", " >= ", ">", "+", "-", "*", "/"};
    if (deep > 2 && random.nextInt(12) == 0) return edge();
    if (deep <= 0) return random.nextInt(3) > 0 ? names[random.nextInt(6)] : number(0, 99999, false);
    switch (random.nextInt(6)) {
      case 0: return "(" + expression(deep - 1) + ")";
      case 1: return "(not " + expression(deep - 1) + ")";
      case 2: return "not " + expression(deep - 1);
      case 3: return "(" + expression(deep - 1) + joins[random.nextInt(12)] + expression(deep - 2) + ")";
      default: return expression(deep - 1) + joins[random.nextInt(12)] + expression(deep - 1);
    }
  }

  /** Near the most '(' and the most KNOTS. */
  private String edge() {
    int open = 7 + upTo(2);
    switch (random.nextInt(3)) {
      case 0: return "(".repeat(open) + "near" + ")".repeat(open);
      case 1: return "not ".repeat(45 + upTo(4)) + "far";
      default: return "turns" + "+1".repeat(22 + upTo(3)) + (random.nextBoolean() ? "" : "*sort");
    }
  }

  private void goodText() {
    StringBuilder text = new StringBuilder();
    boolean span = random.nextInt(4) > 0;
    if (span) text.append("halo ").append(span(false)).append(' ').append(number(1, 200, false)).append(';');
    int lines = random.nextInt(3);
    for (int i = 0; i < lines; i++) {
      String line = line(false);
      if (!line.startsWith("use") && !(span && line.contains(".."))) text.append(line).append(";\n");
    }
    if (random.nextInt(3) == 0) text.append("use ").append(expression(random.nextInt(5))).append(';');
    put(text.toString());
  }

  // ---- calls ----

  private void setUp() {
    goodText();
    call("length", 10 + upTo(random.nextInt(4) == 0 ? 230 : 50));
    call("cells", 2 + upTo(6), random.nextBoolean() ? 8 + upTo(1500) : 8 + upTo(19992));
    int orbits = random.nextInt(6);
    for (int i = 0; i < orbits; i++) orbit();
    call("portions", 1 + upTo(random.nextInt(3) == 0 ? 9 : 4));
    int sights = random.nextInt(4);
    for (int i = 0; i < sights; i++) sight();
  }

  private void orbit() {
    int far = random.nextInt(5) == 0 ? 9999 : random.nextBoolean() ? 100 : 800;
    int fast = random.nextInt(5) == 0 ? 999 : random.nextBoolean() ? 10 : 120;
    int shape = random.nextInt(5);
    call("orbit", odd(shape == 0 ? 0 : around(far)), odd(shape == 1 ? 0 : around(far)), odd(shape == 2 ? 0 : around(fast)), odd(around(fast)));
  }

  private void sight() {
    int orbit = upTo(Math.max(0, house.count(1) - 1));
    int cell = random.nextInt(9) == 0 ? upTo(64) : busyCell(orbit);
    int share = Math.max(0, plain.share(orbit, cell, 0));
    if (random.nextInt(3) > 0) {
      int mid = 1000 * share / house.count(7) / (1 + upTo(2));
      int low = Math.max(0, mid - upTo(150));
      call("sight", odd(0), odd(cell), odd(low), odd(random.nextBoolean() ? 1000 : Math.min(1000, mid + upTo(150))));
    } else {
      int mid = share == 0 ? 0 : Math.max(-9999, Math.min(9999, plain.share(orbit, cell, 1) / share));
      call("sight", 1, cell, odd(Math.max(-9999, mid - upTo(60))), odd(Math.min(9999, mid + upTo(60))));
    }
  }

  /** A CELL where the ORBIT is, so that a SIGHT of it can hold. */
  private int busyCell(int orbit) {
    int from = upTo(63);
    for (int i = 0; i < 64; i++) {
      if (plain.share(orbit, (from + i) % 64, 0) > 0) return (from + i) % 64;
    }
    return from;
  }

  private void anyCall() {
    int orbits = Math.max(1, house.count(1));
    int notes = house.count(2);
    int orbit = odd(random.nextInt(orbits + (random.nextInt(9) == 0 ? 1 : 0)));
    int known = odd(random.nextInt(5) > 0 ? notes : upTo(notes + 1));
    int cell = odd(random.nextBoolean() ? busyCell(orbit) : upTo(63));
    int pace = odd(1 + upTo(Math.max(1, (house.count(5) - house.count(4)) / (1 + upTo(9)))));
    switch (random.nextInt(34)) {
      case 0: if (random.nextInt(3) == 0) goodText(); else call("fault", upTo(3) - 1); break;
      case 1: if (random.nextInt(5) == 0) faultyText(); else call("count", upTo(13) - 1); break;
      case 2: call("mass", odd(house.count(4) + upTo(house.count(5) - house.count(4) + 1))); break;
      case 3: call("pull", odd(around(2000)), odd(around(2000)), odd(upTo(240)), odd(upTo(1))); break;
      case 4: call("pull", odd(around(20000)), odd(around(500)), odd(upTo(240)), upTo(6)); break;
      case 5: case 6: star(); break;
      case 7: case 8: case 9: call("go", odd(random.nextBoolean() ? around(5) : around(240))); break;
      case 10: for (int what = -1; what <= 5; what++) call("starred", what); break;
      case 11: if (random.nextInt(3) == 0) call("length", odd(10 + upTo(60))); break;
      case 12: orbit(); break;
      case 13: case 14: for (int what = -1; what <= 8; what++) call("told", orbit, what); break;
      case 15: for (int what = -1; what <= 4; what++) call("at", orbit, odd(upTo(house.count(7))), what); break;
      case 16: for (int k = -1; k <= 3; k++) call("back", orbit, odd(k)); break;
      case 17: call("alike", orbit, random.nextInt(orbits)); break;
      case 18: call("tune", orbit, odd(1 + upTo(8)), odd(1 + upTo(8))); break;
      case 19: if (random.nextInt(2) == 0) call("cells", odd(2 + upTo(6)), odd(8 + upTo(2000))); break;
      case 20: for (int what = -1; what <= 2; what++) call("share", orbit, cell, what); break;
      case 21: call("portions", odd(1 + upTo(5))); break;
      case 22: case 23: sight(); break;
      case 24: call("strike", odd(upTo(Math.max(0, notes - 1)))); break;
      case 25: call("fits", known); break;
      case 26: call("weight", known, odd(upTo(5)), orbit); break;
      case 27: call("range", known, odd(0), orbit, random.nextBoolean()); break;
      case 28: call("range", known, odd(1), cell, random.nextBoolean()); break;
      case 29: call("quarrel", known); break;
      case 30: case 31: for (int what = -1; what <= 8; what++) call("models", pace, what); break;
      case 32: stream(); break;
      default:
        call("trail");
        call("bent", pace, random.nextBoolean() ? house.trail() : random.nextLong());
        break;
    }
  }

  private void star() {
    call("star", odd(around(random.nextBoolean() ? 300 : 9999)), odd(around(600)), odd(around(100)), odd(around(999)), odd(upTo(240)));
  }

  private void stream() {
    int far = random.nextBoolean() ? 500 : 9999;
    int m = 2 + upTo(14);
    call("stream", odd(around(far)), odd(around(far)), odd(around(100)), odd(around(100)),
        odd(around(60)), odd(around(60)), odd(around(20)), odd(around(20)), odd(m), odd(1 + upTo(random.nextBoolean() ? 30 : 239)));
    call("trail");
  }
}
