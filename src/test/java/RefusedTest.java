import java.lang.reflect.InvocationTargetException;
import java.util.Arrays;

/** Wrong inputs of every call: each is answered as its promise says, and the house is as if it had not been called. */
public final class RefusedTest {
  private static final int NO = Edge.NO;
  private static final int MAX = Edge.MAX;
  private static final long NO_LONG = Edge.NO_LONG;
  private static final int[] FAR = {10000, -10000, NO, MAX};
  private static final int[] FAST = {1000, -1000, NO, MAX};
  private static final int[] LATE = {-1, 241, NO, MAX};
  private static final String FIELD = "halo 100..900 5; guest 50 50 1 0 90 4; bar 200 6 3; use returns + 1;";

  private static boolean full = false;

  /** Something of everything; when it is full, as much as there can be. */
  private static SwarmHouse house() {
    SwarmHouse h = Edge.with(FIELD);
    h.mass(500);
    h.length(30);
    h.cells(5, 700);
    h.portions(4);
    h.star(10, 20, 3, 4, 100);
    h.go(7);
    for (int i = 0; i < (full ? 6 : 3); i++) h.orbit(100 + 40 * i, -20 * i, i, 9);
    h.sight(0, 12, 0, 900);
    h.sight(1, 17, -20, 40);
    h.strike(1);
    for (int i = 3; i < (full ? 10 : 4); i++) h.sight(0, 13, 10, 990);
    h.stream(0, 300, 1, 0, 20, -30, 1, 0, 9, 25);
    Edge.tell(h, "disc 1 100000;");
    for (int i = 0; i < (full ? 25 : 2); i++) Edge.feedBlanks(h);
    return h;
  }

  /** All that can be asked; the TAPE last, as asking for it changes it. */
  private static String state(SwarmHouse h) {
    StringBuilder b = new StringBuilder();
    for (int i = 0; i <= 10; i++) put(b, h.count(i));
    for (int i = 0; i < 2; i++) put(b, h.fault(i));
    for (int i = 0; i < 6; i++) put(b, h.pull(30, 40, 5, i));
    for (int i = 0; i < 5; i++) put(b, h.starred(i));
    for (int o = 0; o < h.count(1); o++) {
      for (int i = 0; i < 8; i++) put(b, h.told(o, i));
      for (int i = 0; i < 4; i++) put(b, h.at(o, 30, i));
      put(b, h.back(o, 0));
      put(b, h.share(o, 12, 0));
      put(b, h.share(o, 13, 1));
      put(b, h.tune(o, 1, 2) ? 1 : 0);
      put(b, h.alike(o, 0) ? 1 : 0);
      put(b, h.weight(h.count(2), 0, o));
    }
    for (int n = 0; n <= h.count(2); n++) put(b, h.fits(n));
    put(b, h.range(2, 1, 12, true));
    put(b, h.quarrel(h.count(2)));
    for (int i = 0; i < 8; i++) put(b, h.models(300, i));
    put(b, h.trail());
    put(b, h.bent(200, 5));
    put(b, h.feed(0, 0, 0, 0, 0));
    put(b, h.field(500));
    put(b, h.field(40));
    put(b, h.fault(1));
    return b.toString();
  }

  private static void put(StringBuilder b, long n) { b.append(n).append(' '); }

  private static long answer(SwarmHouse h, String name, Object[] args) {
    Class<?>[] types = new Class<?>[args.length];
    for (int i = 0; i < args.length; i++) types[i] = args[i] instanceof Integer ? int.class : args[i] instanceof Long ? long.class : boolean.class;
    try {
      Object a = SwarmHouse.class.getDeclaredMethod(name, types).invoke(h, args);
      return a instanceof Boolean ? ((Boolean) a ? 1 : 0) : ((Number) a).longValue();
    } catch (InvocationTargetException e) {
      throw new IllegalStateException(name + " threw", e.getCause());
    } catch (ReflectiveOperationException e) {
      throw new IllegalStateException("no call " + name, e);
    }
  }

  private static void refused(String name, long want, Object... args) {
    SwarmHouse h = house();
    String call = name + Arrays.toString(args);
    Edge.due(call, answer(h, name, args), want);
    String due = state(house());
    String got = state(h);
    if (!got.equals(due)) {
      Edge.due("what is behind " + call + " as it was", false, true);
      System.out.println("  " + got + "\n  due is " + due);
    }
  }

  /** Each of the numbers at one place of the call, the others being fine. */
  private static void each(String name, long want, int place, int[] numbers, Object... args) {
    for (int n : numbers) {
      Object[] with = args.clone();
      with[place] = n;
      refused(name, want, with);
    }
  }

  private static int[] not(int... numbers) { return numbers; }

  private static void fieldAndStar() {
    Edge.says("promise 3", "-2, and the TAPE stays: there are not so many, n is below 0");
    each("field", -2, 0, not(-1, 41, 500, NO, MAX), 0);
    Edge.says("promise 4", "NONE for another what.");
    each("fault", -1, 0, not(-1, 2, NO, MAX), 0);
    Edge.says("promise 5", "false: not in the SPAN.");
    each("mass", 0, 0, not(99, 901, 0, -1, NO, MAX), 0);
    Edge.says("promise 6", "Integer.MIN_VALUE: no such ones.");
    for (int place = 0; place < 2; place++) each("pull", NO, place, not(20001, -20001, NO, MAX), 0, 0, 0, 0);
    each("pull", NO, 2, LATE, 0, 0, 0, 2);
    each("pull", NO, 3, not(-1, 6, NO, MAX), 0, 0, 0, 0);
    Edge.says("promise 7", "false: no such ones.");
    for (int place = 0; place < 2; place++) each("star", 0, place, FAR, 0, 0, 0, 0, 0);
    for (int place = 2; place < 4; place++) each("star", 0, place, FAST, 0, 0, 0, 0, 0);
    each("star", 0, 4, LATE, 0, 0, 0, 0, 0);
    Edge.says("promise 8", "NONE: no star, no such n.");
    each("go", -1, 0, not(241, -241, NO, MAX), 0);
    Edge.says("promise 9", "Integer.MIN_VALUE: there is none, no such what.");
    each("starred", NO, 0, not(-1, 5, NO, MAX), 0);
  }

  private static void orbits() {
    Edge.says("promise 10", "false: no such one.");
    each("length", 0, 0, not(9, 241, 0, -10, NO, MAX), 0);
    Edge.says("promise 11", "NONE: it can't be");
    for (int place = 0; place < 2; place++) each("orbit", -1, place, FAR, 0, 0, 0, 0);
    for (int place = 2; place < 4; place++) each("orbit", -1, place, FAST, 0, 0, 0, 0);
    Edge.says("promise 12", "Long.MIN_VALUE: no such ones.");
    each("told", NO_LONG, 0, not(-1, 3, 6, NO, MAX), 0, 0);
    each("told", NO_LONG, 1, not(-1, 8, NO, MAX), 0, 0);
    Edge.says("promise 13", "Integer.MIN_VALUE: no such ones, or it didn't do so many.");
    each("at", NO, 0, not(-1, 3, NO, MAX), 0, 0, 0);
    each("at", NO, 1, not(-1, 31, 241, NO, MAX), 0, 0, 0);
    each("at", NO, 2, not(-1, 4, NO, MAX), 0, 0, 0);
    Edge.says("promise 14", "Integer.MIN_VALUE: there is none such.");
    each("back", NO, 0, not(-1, 3, NO, MAX), 0, 0);
    each("back", NO, 1, not(-1, 30, 240, NO, MAX), 0, 0);
    Edge.says("promise 15", "false if there are none such.");
    for (int place = 0; place < 2; place++) each("alike", 0, place, not(-1, 3, NO, MAX), 0, 0);
    Edge.says("promise 16", "false: no such ones, no bar.");
    each("tune", 0, 0, not(-1, 3, NO, MAX), 0, 1, 1);
    for (int place = 1; place < 3; place++) each("tune", 0, place, not(0, 10, -1, NO, MAX), 0, 1, 9);
  }

  private static void sights() {
    Edge.says("promise 17", "false: no such ones.");
    each("cells", 0, 0, not(1, 9, 0, NO, MAX), 4, 1000);
    each("cells", 0, 1, not(7, 20001, 0, NO, MAX), 4, 1000);
    Edge.says("promise 18", "Integer.MIN_VALUE: no such ones.");
    each("share", NO, 0, not(-1, 3, NO, MAX), 0, 0, 0);
    each("share", NO, 1, not(-1, 64, NO, MAX), 0, 0, 0);
    each("share", NO, 2, not(-1, 2, NO, MAX), 0, 0, 0);
    Edge.says("promise 19", "false: no such number.");
    each("portions", 0, 0, not(0, 11, -1, NO, MAX), 0);
    Edge.says("promise 20", "NONE: it can't be (LOW is above HIGH, too)");
    each("sight", -1, 0, not(-1, 2, 3, NO, MAX), 0, 0, 0, 0);
    each("sight", -1, 1, not(-1, 64, NO, MAX), 0, 0, 0, 0);
    each("sight", -1, 2, not(-1, 6, 1001, NO, MAX), 0, 0, 0, 5);
    each("sight", -1, 3, not(4, 1001, -1, NO, MAX), 0, 0, 5, 5);
    each("sight", -1, 2, not(-10000, 6, 10000, NO, MAX), 1, 0, 0, 5);
    each("sight", -1, 3, not(4, 10000, -10000, NO, MAX), 1, 0, 5, 5);
    Edge.says("promise 21", "NONE: no such one");
    each("strike", -1, 0, not(-1, 4, 10, NO, MAX), 0);
    Edge.says("promise 22", "NONE: no such n.");
    each("fits", -1, 0, not(-1, 5, 10, 11, NO, MAX), 0);
    Edge.says("promise 23", "NONE: no such ones.");
    each("weight", -1, 0, not(-1, 5, NO, MAX), 0, 0, 0);
    each("weight", -1, 1, not(-1, 15, 1000000, NO, MAX), 0, 0, 0);
    each("weight", -1, 2, not(-1, 3, 6, NO, MAX), 0, 0, 0);
    Edge.says("promise 24", "NONE: no such n, what, ORBIT, CELL (0 .. 63)");
    each("range", -1, 0, not(-1, 5, NO, MAX), 0, 0, 0, true);
    each("range", -1, 1, not(-1, 2, NO, MAX), 0, 0, 0, false);
    each("range", -1, 2, not(-1, 3, 6, NO, MAX), 0, 0, 0, false);
    each("range", -1, 2, not(-1, 64, NO, MAX), 0, 1, 0, true);
    Edge.says("promise 25", "NONE: no such n.");
    each("quarrel", -1, 0, not(-1, 5, NO, MAX), 0);
  }

  private static void modelsAndStreams() {
    Edge.says("promise 26", "NONE for another what, pace.");
    each("models", -1, 0, not(0, 100000, -1, NO, MAX), 1, 0);
    each("models", -1, 1, not(-1, 8, NO, MAX), 1, 0);
    Edge.says("promise 27", "NONE, and the one at hand stays: no such ones.");
    Object[] fine = {0, 0, 0, 0, 0, 0, 0, 0, 2, 1};
    for (int place = 0; place < 2; place++) each("stream", -1, place, FAR, fine);
    for (int place = 2; place < 4; place++) each("stream", -1, place, FAST, fine);
    for (int place = 4; place < 8; place++) each("stream", -1, place, FAST, fine);
    each("stream", -1, 8, not(1, 17, 0, -1, NO, MAX), fine);
    each("stream", -1, 9, not(0, 241, -1, NO, MAX), fine);
    refused("stream", -1, 9000, 0, 0, 0, 500, 0, 0, 0, 3, 9);
    refused("stream", -1, 0, -9000, 0, 0, 0, -500, 0, 0, 3, 9);
    refused("stream", -1, 0, 0, 900, 0, 0, 0, 50, 0, 3, 9);
    refused("stream", -1, 0, 0, 0, -900, 0, 0, 0, -50, 3, 9);
    Edge.says("promise 29", "NONE: no such pace");
    each("bent", -1, 0, not(0, 100000, -1, NO, MAX), 1, 5L);
    Edge.says("promise 30", "NONE for another what.");
    each("count", -1, 0, not(-1, 11, NO, MAX), 0);
  }

  private static void noRoom() {
    full = true;
    Edge.says("promise 2", "NONE, and none come, if it would have more than 500");
    refused("feed", -1, 1, 2, 3, 4, 5);
    Edge.says("promise 11", "or there are 6");
    refused("orbit", -1, 0, 0, 0, 0);
    Edge.says("promise 20", "or there are 10 NOTES");
    refused("sight", -1, 0, 0, 0, 0);
    refused("sight", -1, 1, 63, -9999, 9999);
    Edge.says("promise 21", "or there are 10");
    for (int note : new int[] {0, 1, 2, 9}) refused("strike", -1, note);
    full = false;
  }

  public static void main(String[] args) {
    fieldAndStar();
    orbits();
    sights();
    modelsAndStreams();
    noRoom();
    Edge.end();
  }
}
