import java.math.BigInteger;
import java.util.ArrayList;
import java.util.Arrays;
import java.util.List;
import java.util.Map;
import java.util.Set;
import java.util.TreeMap;
import java.util.TreeSet;
import java.util.function.Function;
import java.util.regex.Matcher;
import java.util.regex.Pattern;

/** The document written a second time, slowly and with the whole library: every answer is worked out anew at each call. */
final class PlainHouse {
  static final int NONE = -1;
  private static final BigInteger LIMIT = BigInteger.TEN.pow(15);

  static final class Fault extends RuntimeException {
    private static final long serialVersionUID = 1L;
    final int kind;
    final int place;
    Fault(int kind, int place) { this.kind = kind; this.place = place; }
  }

  static final class Wrong extends RuntimeException {
    private static final long serialVersionUID = 1L;
  }

  record Token(String text, int place) {}

  record Part(String word, List<Integer> n, boolean spans) {}

  interface Expression { BigInteger of(Map<String, Long> names); }

  /** A place with its speeds. */
  record Place(long x, long y, long u, long v) {
    boolean beyond() { return Math.max(Math.abs(x), Math.abs(y)) > 20000; }
    long spin() { return x * v - y * u; }
    long square() { return x * x + y * y; }
  }

  record Note(int kind, int target, int low, int high) {}

  private StringBuilder tape = new StringBuilder();
  private List<Part> parts = List.of();
  private Expression use = null;
  private int knots = 0;
  private int first = 0;
  private int last = 0;
  private int mass = 0;
  private int fault = 0;
  private int faultPlace = NONE;
  private Place star = null;
  private int starTime = 0;
  private int starGone = 0;
  private int length = 60;
  private final List<Place> starts = new ArrayList<>();
  private int g = 4;
  private int r = 1000;
  private int portions = 6;
  private final List<Note> notes = new ArrayList<>();
  private int[] stream = null;

  int feed(int a, int b, int c, int d, int e) {
    if (tape.length() > 480) return NONE;
    for (int n : new int[] {a, b, c, d, e}) {
      for (int k = 3; k >= 0; k--) tape.append((char) (n >>> 8 * k & 255));
    }
    return tape.length();
  }

  // ---- the FIELD ----

  private List<Token> tokens;
  private int next;
  private int textLength;
  private List<Part> newParts;
  private int newKnots;
  private int[] newSpan;

  int field(int n) {
    if (n < 0 || n > tape.length()) return -2;
    String text = tape.substring(0, n);
    tape = new StringBuilder();
    fault = 0;
    faultPlace = NONE;
    try {
      Expression e = parse(text);
      parts = newParts;
      use = e;
      knots = newKnots;
      first = newSpan == null ? 0 : newSpan[0];
      last = newSpan == null ? 0 : newSpan[1];
      mass = first;
      return parts.size();
    } catch (Fault f) {
      fault = f.kind;
      faultPlace = f.place;
      return NONE;
    }
  }

  private Expression parse(String text) {
    tokens = new ArrayList<>();
    next = 0;
    textLength = text.length();
    newParts = new ArrayList<>();
    newKnots = 0;
    newSpan = null;
    Matcher m = Pattern.compile("[a-z]+|[0-9]+|\\.\\.|<=|<>|>=|[\\x00-\\xff&&[^\\n ]]").matcher(text);
    while (m.find()) tokens.add(new Token(m.group(), m.start()));
    Expression found = null;
    while (next < tokens.size()) {
      Token t = tokens.get(next);
      String shape = switch (t.text()) {
        case "heap" -> "xxms";
        case "disc" -> "ms";
        case "halo" -> "hs";
        case "bar" -> "mst";
        case "guest" -> "xxuums";
        case "use" -> "";
        default -> throw new Fault(1, t.place());
      };
      if (t.text().equals("use")) {
        if (found != null) throw new Fault(3, t.place());
        next++;
        found = chain(0, 0);
      } else {
        if (newParts.size() == 8) throw new Fault(2, t.place());
        next++;
        newParts.add(part(t.text(), shape));
      }
      eat(";");
    }
    return found;
  }

  private String peek() { return next < tokens.size() ? tokens.get(next).text() : "\0end"; }

  private int place() { return next < tokens.size() ? tokens.get(next).place() : textLength; }

  private void eat(String what) {
    if (!peek().equals(what)) throw new Fault(1, place());
    next++;
  }

  private int number(int low, int high) {
    if (!peek().matches("[0-9]+")) throw new Fault(1, place());
    BigInteger n = new BigInteger(peek());
    if (n.compareTo(BigInteger.valueOf(low)) < 0 || n.compareTo(BigInteger.valueOf(high)) > 0) throw new Fault(2, place());
    next++;
    return n.intValue();
  }

  private Part part(String word, String shape) {
    List<Integer> n = new ArrayList<>();
    boolean spans = false;
    for (char c : shape.toCharArray()) {
      if (c == 'x' || c == 'u') {
        int sign = 1;
        if (peek().equals("-")) { sign = -1; next++; }
        n.add(sign * number(0, c == 'x' ? 9999 : 99));
      } else if (c == 'm' || c == 'h') {
        n.add(number(0, 99999));
        if (c == 'h' && peek().equals("..")) {
          if (newSpan != null) throw new Fault(3, place());
          next++;
          int low = n.get(0);
          newSpan = new int[] {low, number(low, 99999)};
          spans = true;
        }
      } else {
        n.add(number(1, c == 's' ? 9999 : 99));
      }
    }
    return new Part(word, n, spans);
  }

  private static final List<Set<String>> SIGNS = List.of(
      Set.of("or"), Set.of("and"), Set.of("<", "<=", "=", "<>", ">=", ">"), Set.of("+", "-"), Set.of("*", "/"));

  private void knot() {
    if (newKnots == 48) throw new Fault(2, place());
    newKnots++;
    next++;
  }

  /** One rank of signs: 0 or, 1 and, 2 comparisons (at most one, and 'not' before them), 3 sums, 4 products. */
  private Expression chain(int rank, int open) {
    if (rank == 5) return primary(open);
    if (rank == 2 && peek().equals("not")) {
      knot();
      Expression e = chain(2, open);
      return names -> truth(e.of(names).signum() == 0);
    }
    Expression e = chain(rank + 1, open);
    while (SIGNS.get(rank).contains(peek())) {
      String sign = peek();
      knot();
      Expression left = e;
      Expression right = chain(rank + 1, open);
      e = names -> join(sign, left.of(names), right.of(names));
      if (rank == 2) break;
    }
    return e;
  }

  private Expression primary(int open) {
    String t = peek();
    if (t.equals("(")) {
      if (open == 8) throw new Fault(2, place());
      next++;
      Expression e = chain(0, open + 1);
      eat(")");
      return e;
    }
    if (Set.of("near", "far", "turns", "sort", "gone", "returns").contains(t)) {
      knot();
      return names -> fitting(BigInteger.valueOf(names.get(t)));
    }
    int mark = next;
    int n = number(0, 99999);
    next = mark;
    knot();
    return names -> BigInteger.valueOf(n);
  }

  private static BigInteger truth(boolean so) { return so ? BigInteger.ONE : BigInteger.ZERO; }

  private static BigInteger fitting(BigInteger n) {
    if (n.abs().compareTo(LIMIT) > 0) throw new Wrong();
    return n;
  }

  private static BigInteger join(String sign, BigInteger a, BigInteger b) {
    switch (sign) {
      case "or": return truth(a.signum() != 0 || b.signum() != 0);
      case "and": return truth(a.signum() != 0 && b.signum() != 0);
      case "<": return truth(a.compareTo(b) < 0);
      case "<=": return truth(a.compareTo(b) <= 0);
      case "=": return truth(a.equals(b));
      case "<>": return truth(!a.equals(b));
      case ">=": return truth(a.compareTo(b) >= 0);
      case ">": return truth(a.compareTo(b) > 0);
      case "+": return fitting(a.add(b));
      case "-": return fitting(a.subtract(b));
      case "*": return fitting(a.multiply(b));
      default:
        if (b.signum() == 0) throw new Wrong();
        return fitting(a.divide(b));
    }
  }

  int fault(int what) { return what == 0 ? fault : what == 1 ? faultPlace : NONE; }

  boolean mass(int m) {
    if (m < first || m > last) return false;
    mass = m;
    return true;
  }

  // ---- PULL and STEPS ----

  private static long root(long n) {
    return BigInteger.valueOf(n).sqrt().longValueExact();
  }

  private long[] pullsBy(long x, long y, int t, int m) {
    long px = 0;
    long py = 0;
    for (Part p : parts) {
      List<Integer> n = p.n();
      long[] one = switch (p.word()) {
        case "heap" -> heap(x - n.get(0), y - n.get(1), n.get(2), n.get(3));
        case "guest" -> heap(x - n.get(0) - (long) n.get(2) * t, y - n.get(1) - (long) n.get(3) * t, n.get(4), n.get(5));
        case "disc" -> stretched(x, y, n.get(0), 2L * n.get(0), (long) n.get(1) * n.get(1));
        case "halo" -> {
          long d = root(x * x + y * y) + n.get(1);
          long own = p.spans() ? m : n.get(0);
          yield new long[] {-(own * x / (d * d)), -(own * y / (d * d))};
        }
        default -> bar(x, y, t, n);
      };
      px += one[0];
      py += one[1];
    }
    return new long[] {px, py};
  }

  private static long[] heap(long dx, long dy, long m, long s) { return stretched(dx, dy, m, m, s * s); }

  private static long[] stretched(long x, long y, long mx, long my, long s2) {
    long d = x * x + y * y + s2;
    return new long[] {-(mx * x / d), -(my * y / d)};
  }

  private static long[] bar(long x, long y, int t, List<Integer> n) {
    long m = n.get(0);
    long s2 = (long) n.get(1) * n.get(1);
    int phase = t / n.get(2) % 4;
    if (phase == 0) return stretched(x, y, m, 2 * m, s2);
    if (phase == 2) return stretched(x, y, 2 * m, m, s2);
    long[] slanted = phase == 1 ? stretched(x + y, y - x, m, 2 * m, 2 * s2) : stretched(x + y, y - x, 2 * m, m, 2 * s2);
    return new long[] {slanted[0] - slanted[1], slanted[0] + slanted[1]};
  }

  int pull(int x, int y, int t, int what) {
    if (Math.abs((long) x) > 20000 || Math.abs((long) y) > 20000 || t < 0 || t > 240 || what < 0 || what > 5) return Integer.MIN_VALUE;
    if (what < 2) return (int) pullsBy(x, y, t, mass)[what];
    long best = what < 4 ? Long.MAX_VALUE : Long.MIN_VALUE;
    for (int m = first; m <= last; m++) {
      long p = pullsBy(x, y, t, m)[what % 2];
      best = what < 4 ? Math.min(best, p) : Math.max(best, p);
    }
    return (int) best;
  }

  private Place step(Place p, int t, int m) {
    long[] f = pullsBy(p.x(), p.y(), t, m);
    long u = p.u() + f[0];
    long v = p.v() + f[1];
    return new Place(p.x() + u, p.y() + v, u, v);
  }

  private Place stepBack(Place p, int t) {
    long x = p.x() - p.u();
    long y = p.y() - p.v();
    long[] f = pullsBy(x, y, t, mass);
    return new Place(x, y, p.u() - f[0], p.v() - f[1]);
  }

  private static boolean start(long x, long y, long u, long v) {
    return Math.abs(x) <= 9999 && Math.abs(y) <= 9999 && Math.abs(u) <= 999 && Math.abs(v) <= 999;
  }

  boolean star(int x, int y, int u, int v, int t) {
    if (!start(x, y, u, v) || t < 0 || t > 240) return false;
    star = new Place(x, y, u, v);
    starTime = t;
    starGone = 0;
    return true;
  }

  int go(int n) {
    if (star == null || n < -240 || n > 240) return NONE;
    int way = Integer.signum(n);
    for (int i = 0; i < Math.abs(n); i++) {
      if (starTime + way < 0 || starTime + way > 240 || starGone == way) return i;
      star = way > 0 ? step(star, starTime, mass) : stepBack(star, starTime - 1);
      starTime += way;
      starGone = star.beyond() ? way : 0;
    }
    return Math.abs(n);
  }

  int starred(int what) {
    if (star == null || what < 0 || what > 4) return Integer.MIN_VALUE;
    return (int) new long[] {star.x(), star.y(), star.u(), star.v(), starTime}[what];
  }

  boolean length(int n) {
    if (n < 10 || n > 240) return false;
    length = n;
    return true;
  }

  // ---- ORBITS ----

  int orbit(int x, int y, int u, int v) {
    if (!start(x, y, u, v) || starts.size() == 6) return NONE;
    starts.add(new Place(x, y, u, v));
    return starts.size() - 1;
  }

  private List<Place> way(Place from, int steps, int m) {
    List<Place> way = new ArrayList<>(List.of(from));
    while (way.size() <= steps && !way.get(way.size() - 1).beyond()) {
      way.add(step(way.get(way.size() - 1), way.size() - 1, m));
    }
    return way;
  }

  private final Map<String, List<Place>> waysOfNow = new TreeMap<>();
  private String stateOfNow = "";

  /** The same way is asked for by many answers of one call; parts tell their numbers in their text. */
  private List<Place> orbitWay(int orbit, int m) {
    String state = parts + " " + length + " " + starts;
    if (!state.equals(stateOfNow)) { waysOfNow.clear(); stateOfNow = state; }
    return waysOfNow.computeIfAbsent(orbit + " " + m, k -> way(starts.get(orbit), length, m));
  }

  private static boolean gone(List<Place> way) { return way.get(way.size() - 1).beyond(); }

  private static int sort(List<Place> way) {
    if (gone(way)) return 3;
    if (way.stream().allMatch(p -> p.spin() > 0) || way.stream().allMatch(p -> p.spin() < 0)) return 0;
    return way.stream().allMatch(p -> p.spin() == 0) ? 2 : 1;
  }

  private static int turns(List<Place> way) {
    int quarter = 0;
    int turns = 0;
    for (int i = 0; i < way.size(); i++) {
      long x = way.get(i).x();
      long y = way.get(i).y();
      int now = quarter;
      if (x > 0 && y >= 0) now = 0;
      if (y > 0 && x <= 0) now = 1;
      if (x < 0 && y <= 0) now = 2;
      if (y < 0 && x >= 0) now = 3;
      if (i > 0 && now == (quarter + 1) % 4) turns++;
      if (i > 0 && quarter == (now + 1) % 4) turns--;
      quarter = now;
    }
    return turns;
  }

  private static List<Long> returns(List<Place> way) {
    List<Long> found = new ArrayList<>();
    for (int i = 1; i < way.size(); i++) {
      if (way.get(i - 1).y() < 0 && way.get(i).y() >= 0) found.add(way.get(i).x());
    }
    return found;
  }

  private boolean used(int orbit, int m) {
    if (use == null) return true;
    List<Place> way = orbitWay(orbit, m);
    Map<String, Long> names = new TreeMap<>();
    names.put("near", way.stream().mapToLong(Place::square).min().getAsLong());
    names.put("far", way.stream().mapToLong(Place::square).max().getAsLong());
    names.put("turns", (long) turns(way));
    names.put("sort", (long) sort(way));
    names.put("gone", gone(way) ? way.size() - 1L : 0L);
    names.put("returns", (long) returns(way).size());
    try {
      return use.of(names).signum() != 0;
    } catch (Wrong w) {
      return false;
    }
  }

  private boolean there(int orbit) { return orbit >= 0 && orbit < starts.size(); }

  long told(int orbit, int what) {
    if (!there(orbit)) return Long.MIN_VALUE;
    List<Place> way = orbitWay(orbit, mass);
    return switch (what) {
      case 0 -> way.size() - 1;
      case 1 -> way.stream().mapToLong(Place::square).min().getAsLong();
      case 2 -> way.stream().mapToLong(Place::square).max().getAsLong();
      case 3 -> turns(way);
      case 4 -> sort(way);
      case 5 -> way.stream().mapToLong(Place::spin).max().getAsLong() - way.stream().mapToLong(Place::spin).min().getAsLong();
      case 6 -> returns(way).size();
      case 7 -> used(orbit, mass) ? 1 : 0;
      default -> Long.MIN_VALUE;
    };
  }

  int at(int orbit, int t, int what) {
    if (!there(orbit) || t < 0 || what < 0 || what > 3) return Integer.MIN_VALUE;
    List<Place> way = orbitWay(orbit, mass);
    if (t >= way.size()) return Integer.MIN_VALUE;
    Place p = way.get(t);
    return (int) new long[] {p.x(), p.y(), p.u(), p.v()}[what];
  }

  int back(int orbit, int k) {
    if (!there(orbit) || k < 0) return Integer.MIN_VALUE;
    List<Long> all = returns(orbitWay(orbit, mass));
    return k < all.size() ? all.get(k).intValue() : Integer.MIN_VALUE;
  }

  private static boolean mostlyNear(List<Long> one, List<Long> other) {
    long near = one.stream().filter(a -> other.stream().anyMatch(b -> Math.abs(a - b) <= 50)).count();
    return near > 0 && near >= one.size() - near;
  }

  boolean alike(int a, int b) {
    if (!there(a) || !there(b)) return false;
    List<Place> one = orbitWay(a, mass);
    List<Place> other = orbitWay(b, mass);
    if (gone(one) || gone(other) || sort(one) != sort(other)) return false;
    return mostlyNear(returns(one), returns(other)) && mostlyNear(returns(other), returns(one));
  }

  boolean tune(int orbit, int p, int q) {
    Part bar = parts.stream().filter(x -> x.word().equals("bar")).findFirst().orElse(null);
    if (!there(orbit) || bar == null || p < 1 || p > 9 || q < 1 || q > 9) return false;
    long twice = 2L * bar.n().get(2);
    long value = q * turns(orbitWay(orbit, mass)) * twice;
    return Math.abs(value - (long) p * length) <= q * twice || Math.abs(value - -(long) p * length) <= q * twice;
  }

  // ---- CELLS, SIGHTS, FITS ----

  boolean cells(int newG, int newR) {
    if (newG < 2 || newG > 8 || newR < 8 || newR > 20000) return false;
    g = newG;
    r = newR;
    return true;
  }

  private int cell(Place p) {
    if (p.x() < -r || p.x() > r - 1 || p.y() < -r || p.y() > r - 1) return NONE;
    long column = Math.floorDiv((p.x() + r) * g, 2L * r);
    long row = Math.floorDiv((p.y() + r) * g, 2L * r);
    return (int) (g * row + column);
  }

  private long shareOf(int orbit, int cell, int what, int m) {
    List<Place> way = orbitWay(orbit, m);
    return way.subList(1, way.size()).stream().filter(p -> cell(p) == cell).mapToLong(p -> what == 0 ? 1 : p.u()).sum();
  }

  int share(int orbit, int cell, int what) {
    if (!there(orbit) || cell < 0 || cell > 63 || what < 0 || what > 1) return Integer.MIN_VALUE;
    return (int) shareOf(orbit, cell, what, mass);
  }

  boolean portions(int n) {
    if (n < 1 || n > 10) return false;
    portions = n;
    return true;
  }

  int sight(int kind, int cell, int low, int high) {
    int least = kind == 0 ? 0 : -9999;
    int most = kind == 0 ? 1000 : 9999;
    if (kind < 0 || kind > 1 || cell < 0 || cell > 63 || low < least || low > most || high < least || high > most || low > high) return NONE;
    return note(new Note(kind, cell, low, high));
  }

  int strike(int note) {
    return note < 0 || note >= notes.size() ? NONE : note(new Note(2, note, 0, 0));
  }

  private int note(Note n) {
    if (notes.size() == 10) return NONE;
    notes.add(n);
    return notes.size() - 1;
  }

  private boolean struck(int note, int n) {
    for (int i = note + 1; i < n; i++) {
      if (notes.get(i).kind() == 2 && notes.get(i).target() == note && !struck(i, n)) return true;
    }
    return false;
  }

  private List<Integer> sightsKnown(int n) {
    List<Integer> known = new ArrayList<>();
    for (int i = 0; i < n; i++) if (notes.get(i).kind() != 2 && !struck(i, n)) known.add(i);
    return known;
  }

  private void weights(int orbit, int left, int[] now, boolean[] used, List<int[]> all) {
    if (orbit == now.length) {
      if (left == 0) all.add(now.clone());
      return;
    }
    for (int w = used[orbit] ? left : 0; w >= 0; w--) {
      now[orbit] = w;
      weights(orbit + 1, left - w, now, used, all);
    }
    now[orbit] = 0;
  }

  private List<int[]> allWeights(int m) {
    boolean[] used = new boolean[starts.size()];
    for (int i = 0; i < used.length; i++) used[i] = used(i, m);
    List<int[]> all = new ArrayList<>();
    weights(0, portions, new int[used.length], used, all);
    return all;
  }

  /** Shares of each ORBIT in each CELL (what 0), or goings (what 1). */
  private long[][] table(int what, int m) {
    long[][] table = new long[starts.size()][64];
    for (int i = 0; i < table.length; i++) {
      List<Place> way = orbitWay(i, m);
      for (Place p : way.subList(1, way.size())) if (cell(p) >= 0) table[i][cell(p)] += what == 0 ? 1 : p.u();
    }
    return table;
  }

  private static long sum(int[] w, long[][] table, int cell) {
    long sum = 0;
    for (int i = 0; i < w.length; i++) sum += w[i] * table[i][cell];
    return sum;
  }

  private boolean holds(int sight, int[] w, long[][] shares, long[][] goings) {
    Note n = notes.get(sight);
    long light = sum(w, shares, n.target());
    long scale = n.kind() == 0 ? (long) portions * length : light;
    long seen = n.kind() == 0 ? 1000 * light : sum(w, goings, n.target());
    return seen >= n.low() * scale && seen <= n.high() * scale;
  }

  private List<int[]> fitting(List<Integer> sights, int m) {
    long[][] shares = table(0, m);
    long[][] goings = table(1, m);
    List<int[]> found = new ArrayList<>();
    for (int[] w : allWeights(m)) if (sights.stream().allMatch(s -> holds(s, w, shares, goings))) found.add(w);
    return found;
  }

  private boolean noSuch(int n) { return n < 0 || n > notes.size(); }

  int fits(int n) { return noSuch(n) ? NONE : fitting(sightsKnown(n), mass).size(); }

  int weight(int n, int k, int orbit) {
    if (noSuch(n) || !there(orbit) || k < 0) return NONE;
    List<int[]> all = fitting(sightsKnown(n), mass);
    return k < all.size() ? all.get(k)[orbit] : NONE;
  }

  int range(int n, int what, int i, boolean most) {
    if (noSuch(n) || what < 0 || what > 1 || i < 0 || i >= (what == 0 ? starts.size() : 64)) return NONE;
    long[][] shares = table(0, mass);
    TreeSet<Long> values = new TreeSet<>();
    for (int[] w : fitting(sightsKnown(n), mass)) values.add(what == 0 ? (long) w[i] : sum(w, shares, i));
    return values.isEmpty() ? NONE : (int) (long) (most ? values.last() : values.first());
  }

  int quarrel(int n) {
    if (noSuch(n)) return NONE;
    List<Integer> known = sightsKnown(n);
    if (allWeights(mass).isEmpty() || !fitting(known, mass).isEmpty()) return 0;
    long[][] shares = table(0, mass);
    long[][] goings = table(1, mass);
    Set<Integer> holding = new TreeSet<>();
    for (int[] w : allWeights(mass)) {
      int bits = 0;
      for (int s : known) if (holds(s, w, shares, goings)) bits |= 1 << s;
      holding.add(bits);
    }
    for (int size = 1; size <= 10; size++) {
      for (int set = 1; set < 1024; set++) {
        int bits = set;
        boolean ofKnown = true;
        for (int s = 0; s < 10; s++) if ((bits >> s & 1) == 1 && !known.contains(s)) ofKnown = false;
        if (ofKnown && Integer.bitCount(bits) == size && holding.stream().noneMatch(h -> (h & bits) == bits)) return bits;
      }
    }
    throw new IllegalStateException();
  }

  // ---- MODELS and STREAMS ----

  private List<Integer> masses(int pace) {
    List<Integer> all = new ArrayList<>();
    for (int m = first; m <= last && all.size() < 8; m += pace) all.add(m);
    return all;
  }

  int models(int pace, int what) {
    if (pace < 1 || pace > 99999 || what < 0 || what > 7) return NONE;
    List<Integer> masses = masses(pace);
    Map<Integer, List<Long>> tells = new TreeMap<>();
    List<Integer> known = sightsKnown(notes.size());
    for (int i = 0; i < masses.size(); i++) {
      int m = masses.get(i);
      List<int[]> all = fitting(known, m);
      if (all.isEmpty()) continue;
      long[][] shares = table(0, m);
      List<Long> tell = new ArrayList<>();
      for (int c = 0; c < g * g; c++) tell.add(sum(all.get(0), shares, c));
      tells.put(i, tell);
    }
    List<Integer> kept = new ArrayList<>(tells.keySet());
    switch (what) {
      case 0: return masses.size();
      case 1: return kept.stream().mapToInt(i -> 1 << i).sum();
      case 2: return kept.isEmpty() ? NONE : masses.get(kept.get(0));
      case 3: return kept.isEmpty() ? NONE : masses.get(kept.get(kept.size() - 1));
      case 4: return kept.size() < 2 ? NONE : look(tells);
      default: return twins(tells, kept, known, what);
    }
  }

  private int look(Map<Integer, List<Long>> tells) {
    int best = NONE;
    int fewest = 99;
    for (int c = 0; c < g * g; c++) {
      Map<Long, Integer> groups = new TreeMap<>();
      for (List<Long> tell : tells.values()) groups.merge(tell.get(c), 1, Integer::sum);
      int most = groups.values().stream().max(Integer::compare).get();
      if (most < fewest) { fewest = most; best = c; }
    }
    return best;
  }

  private int twins(Map<Integer, List<Long>> tells, List<Integer> kept, List<Integer> known, int what) {
    Function<Integer, Integer> cellOf = s -> notes.get(s).target();
    for (int i : kept) {
      for (int k : kept) {
        if (i >= k) continue;
        List<Long> a = tells.get(i);
        List<Long> b = tells.get(k);
        if (!known.stream().map(cellOf).allMatch(c -> c >= g * g || a.get(c).equals(b.get(c)))) continue;
        if (what < 7) return what == 5 ? i : k;
        for (int c = 0; c < g * g; c++) if (!a.get(c).equals(b.get(c))) return c;
        return NONE;
      }
    }
    return NONE;
  }

  int stream(int x, int y, int u, int v, int a, int b, int c, int d, int m, int s) {
    for (int e : new int[] {a, b, c, d}) if (e < -999 || e > 999) return NONE;
    if (m < 2 || m > 16 || s < 1 || s > 240 || !start(x, y, u, v)) return NONE;
    long n = m - 1;
    if (!start(x + n * a, y + n * b, u + n * c, v + n * d)) return NONE;
    stream = new int[] {x, y, u, v, a, b, c, d, m, s};
    return Long.bitCount(trail());
  }

  private long trail(int m) {
    if (stream == null) return 0;
    long bits = 0;
    int[] q = stream;
    for (int i = 0; i < q[8]; i++) {
      List<Place> way = way(new Place(q[0] + i * q[4], q[1] + i * q[5], q[2] + i * q[6], q[3] + i * q[7]), q[9], m);
      Place end = way.get(way.size() - 1);
      if (!end.beyond() && cell(end) >= 0) bits |= 1L << cell(end);
    }
    return bits;
  }

  long trail() { return trail(mass); }

  int bent(int pace, long told) {
    if (pace < 1 || pace > 99999 || stream == null) return NONE;
    int best = NONE;
    int fewest = 99;
    for (int m : masses(pace)) {
      int unlike = Long.bitCount(trail(m) ^ told);
      if (unlike < fewest) { fewest = unlike; best = m; }
    }
    return best;
  }

  int count(int what) {
    int[] all = {parts.size(), starts.size(), notes.size(), mass, first, last, knots, length, g, r, portions};
    return what < 0 || what >= all.length ? NONE : all[what];
  }

  @Override
  public String toString() { return parts + " " + Arrays.toString(stream); }
}
