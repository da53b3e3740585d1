import java.util.Arrays;

/** A house for a swarm of stars in a plane. Words in capitals are those of the document's Terms. */
public final class SwarmHouse {
    public static final int NONE = -1;

    private static final int NO_INT = -2147483648;
    private static final long NO_LONG = -9223372036854775808L;
    private static final int NOT_SO_MANY = -2;

    private static final int MOST_TAPE = 500;
    private static final int MOST_PARTS = 8;
    private static final int MOST_OPEN = 8;
    private static final int MOST_KNOTS = 48;
    private static final int MOST_ORBITS = 6;
    private static final int MOST_NOTES = 10;
    private static final int MOST_MODELS = 8;
    private static final int MOST_CELLS = 64;
    private static final int MOST_STARS = 16;
    private static final int LAST_TIME = 240;
    private static final int LEAST_LENGTH = 10;
    private static final int MOST_PORTIONS = 10;
    private static final int MOST_PACE = 99999;
    private static final int FAR_OUT = 20000;
    private static final int LEAST_R = 8;
    private static final int FAR_START = 9999;
    private static final int FAST_START = 999;
    /** Far above the 3003 ways in which 10 PORTIONS fall to 6 ORBITS. */
    private static final int MOST_WEIGHTS = 1000000;

    private static final int MOST_PLACE = 9999;
    private static final int MOST_SPEED = 99;
    private static final int MOST_MASS = 99999;
    private static final int MOST_SIZE = 9999;
    private static final int MOST_PERIOD = 99;
    private static final int MOST_NUMBER = 99999;
    private static final long MOST_VALUE = 1000000000000000L;

    private static final int FAULT_TOKEN = 1;
    private static final int FAULT_MUCH = 2;
    private static final int FAULT_SECOND = 3;

    private static final int END = 0;
    private static final int BAD = 1;
    private static final int NUMBER = 2;
    private static final int STOP = 3;
    private static final int DOTS = 4;
    private static final int OPEN = 5;
    private static final int CLOSE = 6;
    private static final int PLUS = 7;
    private static final int MINUS = 8;
    private static final int TIMES = 9;
    private static final int OVER = 10;
    private static final int LESS = 11;
    private static final int AT_MOST = 12;
    private static final int SAME = 13;
    private static final int UNLIKE = 14;
    private static final int AT_LEAST = 15;
    private static final int MORE = 16;
    private static final int FIRST_WORD = 20;
    private static final int HEAP = 20;
    private static final int DISC = 21;
    private static final int HALO = 22;
    private static final int BAR = 23;
    private static final int GUEST = 24;
    private static final int USE = 25;
    private static final int OR = 26;
    private static final int AND = 27;
    private static final int NOT = 28;
    private static final int NEAR = 29;
    private static final int FAR = 30;
    private static final int TURNS = 31;
    private static final int SORT = 32;
    private static final int GONE = 33;
    private static final int RETURNS = 34;
    /** The words in the order of their tokens; each column ends with a blank, so no longer word is like one of them. */
    private static final String WORDS =
        "heap    disc    halo    bar     guest   use     or      and     not     near    far     turns   sort    gone    returns ";
    private static final int WORD_WIDTH = 8;

    private static final int RING = 0;
    private static final int BOX = 1;
    private static final int LINE = 2;
    private static final int LOST = 3;

    private static final int LIGHT = 0;
    private static final int GOING = 1;
    private static final int STRIKE = 2;
    private static final int MOST_LIGHT = 1000;
    private static final int MOST_GOING = 9999;

    private final byte[] tape = new byte[MOST_TAPE];
    private int taped = 0;
    private final Field field = new Field();
    private final Reader reader = new Reader(tape);
    private final Star star = new Star();
    private boolean starThere = false;
    private final Swarm swarm = new Swarm(field);
    private final Notes notes = new Notes();
    private final Fits fits = new Fits(swarm, notes);
    private final Models models = new Models(field, swarm, notes, fits);
    private final Stream stream = new Stream();

    public SwarmHouse() {
    }

    public int feed(int a, int b, int c, int d, int e) {
        if (taped + 20 > MOST_TAPE) {
            return NONE;
        }
        putBytes(a);
        putBytes(b);
        putBytes(c);
        putBytes(d);
        putBytes(e);
        return taped;
    }

    private void putBytes(int four) {
        for (int shift = 24; shift >= 0; shift -= 8) {
            if (taped < tape.length) {
                tape[taped] = (byte) (four >> shift);
                taped++;
            }
        }
    }

    public int field(int n) {
        if (n < 0 || n > taped) {
            return NOT_SO_MANY;
        }
        reader.read(n);
        taped = 0;
        // A TEXT with a FAULT is no FIELD, so the one before it stays.
        if (reader.fault != 0) {
            return NONE;
        }
        field.take(reader.draft);
        forgetOrbits();
        return field.size;
    }

    public int fault(int what) {
        switch (what) {
            case 0: return reader.fault;
            case 1: return reader.place;
            default: return NONE;
        }
    }

    public boolean mass(int m) {
        if (m < field.first || m > field.last) {
            return false;
        }
        field.mass = m;
        return true;
    }

    public int pull(int x, int y, int t, int what) {
        if (!within(x, FAR_OUT) || !within(y, FAR_OUT) || t < 0 || t > LAST_TIME || what < 0 || what > 5) {
            return NO_INT;
        }
        boolean along = what % 2 == 0;
        if (what < 2) {
            return pulled(x, y, t, along);
        }
        // A PULL only falls or only rises with the mass, so the SPAN's ends have the least and the greatest.
        int before = field.mass;
        field.mass = field.first;
        int low = pulled(x, y, t, along);
        field.mass = field.last;
        int high = pulled(x, y, t, along);
        field.mass = before;
        return what < 4 ? Math.min(low, high) : Math.max(low, high);
    }

    private int pulled(int x, int y, int t, boolean along) {
        field.pullAt(x, y, t);
        return (int) (along ? field.px : field.py);
    }

    public boolean star(int x, int y, int u, int v, int t) {
        if (!canStart(x, y, u, v) || t < 0 || t > LAST_TIME) {
            return false;
        }
        star.put(x, y, u, v, t);
        starThere = true;
        return true;
    }

    public int go(int n) {
        if (!starThere || !within(n, LAST_TIME)) {
            return NONE;
        }
        int done = 0;
        while (done < n && star.step(field)) {
            done++;
        }
        while (done < -n && star.stepBack(field)) {
            done++;
        }
        return done;
    }

    public int starred(int what) {
        if (!starThere) {
            return NO_INT;
        }
        switch (what) {
            case 0: return (int) star.x;
            case 1: return (int) star.y;
            case 2: return (int) star.u;
            case 3: return (int) star.v;
            case 4: return star.time;
            default: return NO_INT;
        }
    }

    public boolean length(int n) {
        if (n < LEAST_LENGTH || n > LAST_TIME) {
            return false;
        }
        swarm.length = n;
        forgetOrbits();
        return true;
    }

    public int orbit(int x, int y, int u, int v) {
        if (!canStart(x, y, u, v)) {
            return NONE;
        }
        int number = swarm.add(x, y, u, v);
        if (number != NONE) {
            forgetOrbits();
        }
        return number;
    }

    public long told(int orbit, int what) {
        Orbit o = swarm.known(orbit);
        if (o == null) {
            return NO_LONG;
        }
        switch (what) {
            case 0: return o.done;
            case 1: return o.near;
            case 2: return o.far;
            case 3: return o.turns;
            case 4: return o.kind();
            case 5: return o.spinHigh - o.spinLow;
            case 6: return o.returned;
            case 7: return o.used ? 1 : 0;
            default: return NO_LONG;
        }
    }

    public int at(int orbit, int t, int what) {
        Orbit o = swarm.known(orbit);
        if (o == null || t < 0 || t > o.done || what < 0 || what > 3) {
            return NO_INT;
        }
        return o.track[what][t];
    }

    public int back(int orbit, int k) {
        Orbit o = swarm.known(orbit);
        if (o == null || k < 0 || k >= o.returned) {
            return NO_INT;
        }
        return o.returns[k];
    }

    public boolean alike(int a, int b) {
        Orbit one = swarm.known(a);
        Orbit other = swarm.known(b);
        if (one == null || other == null || one.gone || other.gone || one.kind() != other.kind()) {
            return false;
        }
        return one.mostlyReturnsNear(other) && other.mostlyReturnsNear(one);
    }

    public boolean tune(int orbit, int p, int q) {
        Orbit o = swarm.known(orbit);
        int period = field.firstPeriod();
        if (o == null || period == 0 || p < 1 || p > 9 || q < 1 || q > 9) {
            return false;
        }
        int turned = q * o.turns * 2 * period;
        int wanted = p * swarm.length;
        int room = q * 2 * period;
        return Math.abs(turned - wanted) <= room || Math.abs(turned + wanted) <= room;
    }

    public boolean cells(int g, int r) {
        if (g < 2 || g > 8 || r < LEAST_R || r > FAR_OUT) {
            return false;
        }
        swarm.g = g;
        swarm.r = r;
        forgetOrbits();
        return true;
    }

    public int share(int orbit, int cell, int what) {
        Orbit o = swarm.known(orbit);
        if (o == null || cell < 0 || cell >= MOST_CELLS) {
            return NO_INT;
        }
        switch (what) {
            case 0: return o.shares[cell];
            case 1: return o.goings[cell];
            default: return NO_INT;
        }
    }

    public boolean portions(int n) {
        if (n < 1 || n > MOST_PORTIONS) {
            return false;
        }
        fits.portions = n;
        models.pace = 0;
        return true;
    }

    public int sight(int kind, int cell, int low, int high) {
        if (cell < 0 || cell >= MOST_CELLS || low > high) {
            return NONE;
        }
        if (kind == LIGHT ? low < 0 || high > MOST_LIGHT : kind != GOING || low < -MOST_GOING || high > MOST_GOING) {
            return NONE;
        }
        models.pace = 0;
        return notes.add(kind, cell, low, high);
    }

    public int strike(int note) {
        if (note < 0 || note >= notes.size) {
            return NONE;
        }
        models.pace = 0;
        return notes.add(STRIKE, note, 0, 0);
    }

    public int fits(int n) {
        if (!notes.know(n)) {
            return NONE;
        }
        swarm.refresh();
        int found = 0;
        boolean more = fits.first();
        for (int i = 0; i < MOST_WEIGHTS && more; i++) {
            found++;
            more = fits.next();
        }
        return found;
    }

    public int weight(int n, int k, int orbit) {
        if (!notes.know(n) || k < 0 || k >= MOST_WEIGHTS || swarm.known(orbit) == null) {
            return NONE;
        }
        boolean there = fits.first();
        for (int i = 0; i < k && there; i++) {
            there = fits.next();
        }
        return there ? fits.weightOf(orbit) : NONE;
    }

    public int range(int n, int what, int i, boolean most) {
        boolean ofOrbit = what == 0 && i >= 0 && i < swarm.size;
        boolean ofCell = what == 1 && i >= 0 && i < MOST_CELLS;
        if (!notes.know(n) || !ofOrbit && !ofCell) {
            return NONE;
        }
        swarm.refresh();
        int best = NONE;
        boolean more = fits.first();
        for (int k = 0; k < MOST_WEIGHTS && more; k++) {
            int now = ofOrbit ? fits.weightOf(i) : fits.lightOf(i);
            if (best == NONE || (most ? now > best : now < best)) {
                best = now;
            }
            more = fits.next();
        }
        return best;
    }

    public int quarrel(int n) {
        if (!notes.know(n)) {
            return NONE;
        }
        swarm.refresh();
        return fits.fewestApart();
    }

    public int models(int pace, int what) {
        if (pace < 1 || pace > MOST_PACE || what < 0 || what > 7) {
            return NONE;
        }
        models.make(pace);
        switch (what) {
            case 0: return models.size;
            case 1: return models.kept;
            case 2: return models.leastMass();
            case 3: return models.greatestMass();
            case 4: return models.look(swarm.g * swarm.g);
            case 5: return models.twin;
            case 6: return models.otherTwin;
            default: return models.partingCell();
        }
    }

    public int stream(int x, int y, int u, int v, int a, int b, int c, int d, int m, int s) {
        if (m < 2 || m > MOST_STARS || s < 1 || s > LAST_TIME) {
            return NONE;
        }
        if (!canStart(x, y, u, v) || !within(a, 999) || !within(b, 999) || !within(c, 999) || !within(d, 999)) {
            return NONE;
        }
        int last = m - 1;
        if (!canStart(x + last * a, y + last * b, u + last * c, v + last * d)) {
            return NONE;
        }
        stream.begin(x, y, u, v);
        stream.apart(a, b, c, d);
        stream.stars = m;
        stream.steps = s;
        return Long.bitCount(stream.cellBits(field, swarm));
    }

    public long trail() {
        return stream.cellBits(field, swarm);
    }

    public int bent(int pace, long trail) {
        if (pace < 1 || pace > MOST_PACE || stream.stars == 0) {
            return NONE;
        }
        int before = field.mass;
        int best = NONE;
        int fewest = MOST_CELLS + 1;
        int masses = field.massesBy(pace);
        for (int i = 0; i < masses; i++) {
            field.mass = field.first + i * pace;
            int unlike = Long.bitCount(stream.cellBits(field, swarm) ^ trail);
            if (unlike < fewest) {
                fewest = unlike;
                best = field.mass;
            }
        }
        field.mass = before;
        return best;
    }

    public int count(int what) {
        switch (what) {
            case 0: return field.size;
            case 1: return swarm.size;
            case 2: return notes.size;
            case 3: return field.mass;
            case 4: return field.first;
            case 5: return field.last;
            case 6: return field.rule.knots;
            case 7: return swarm.length;
            case 8: return swarm.g;
            case 9: return swarm.r;
            case 10: return fits.portions;
            default: return NONE;
        }
    }

    private void forgetOrbits() {
        swarm.fresh = false;
        models.pace = 0;
    }

    private static boolean canStart(int x, int y, int u, int v) {
        return within(x, FAR_START) && within(y, FAR_START) && within(u, FAST_START) && within(v, FAST_START);
    }

    private static boolean within(int value, int limit) {
        return value >= -limit && value <= limit;
    }

    /** One PART as it was told; numbers that its kind has not stay 0. */
    private static final class Part {
        int kind;
        int x;
        int y;
        int u;
        int v;
        int m;
        int s;
        int period;
        boolean spans;

        void clear(int newKind) {
            kind = newKind;
            x = 0;
            y = 0;
            u = 0;
            v = 0;
            m = 0;
            s = 1;
            period = 1;
            spans = false;
        }

        void addPull(Field sum, long atX, long atY, int time) {
            long mass = spans ? sum.mass : m;
            switch (kind) {
                case HALO:
                    long reach = root(atX * atX + atY * atY) + s;
                    addDrawn(sum, mass * atX, mass * atY, reach * reach);
                    break;
                case DISC:
                    addDrawn(sum, mass * atX, 2 * mass * atY, atX * atX + atY * atY + (long) s * s);
                    break;
                case BAR:
                    addBar(sum, atX, atY, time);
                    break;
                default:
                    long dx = atX - x - (long) u * time;
                    long dy = atY - y - (long) v * time;
                    addDrawn(sum, mass * dx, mass * dy, dx * dx + dy * dy + (long) s * s);
                    break;
            }
        }

        private void addBar(Field sum, long x0, long y0, int time) {
            int phase = period > 0 ? time / period % 4 : 0;
            boolean slanted = phase % 2 == 1;
            long a = slanted ? x0 + y0 : x0;
            long b = slanted ? y0 - x0 : y0;
            long d = a * a + b * b + (slanted ? 2L : 1L) * s * s;
            if (d < 1) {
                return;
            }
            long pa = -((phase < 2 ? 1 : 2) * m * a / d);
            long pb = -((phase < 2 ? 2 : 1) * m * b / d);
            sum.px += slanted ? pa - pb : pa;
            sum.py += slanted ? pa + pb : pb;
        }

        private static void addDrawn(Field sum, long alongX, long alongY, long d) {
            if (d < 1) {
                return;
            }
            sum.px -= alongX / d;
            sum.py -= alongY / d;
        }

        /** The greatest whole number whose square is not above n; most places need only the short way. */
        private static long root(long n) {
            long r = 0;
            for (long bit = n < 4294967296L ? 32768L : 1073741824L; bit > 0; bit >>= 1) {
                if ((r + bit) * (r + bit) <= n) {
                    r += bit;
                }
            }
            return r;
        }
    }

    /** THE FIELD: its PARTS, THE MASS in its SPAN, and its use. */
    private static final class Field {
        private Part[] parts = new Part[MOST_PARTS];
        Rule rule = new Rule();
        int size;
        int first;
        int last;
        int mass;
        long px;
        long py;

        Field() {
            for (int i = 0; i < parts.length; i++) {
                parts[i] = new Part();
            }
        }

        void clear() {
            size = 0;
            first = 0;
            last = 0;
            mass = 0;
            rule.clear();
        }

        /** Becomes what the other one is; the other one gets the rows of this one, to be cleared and told anew. */
        void take(Field other) {
            Part[] oldParts = parts;
            Rule oldRule = rule;
            parts = other.parts;
            rule = other.rule;
            size = other.size;
            first = other.first;
            last = other.last;
            mass = other.mass;
            other.parts = oldParts;
            other.rule = oldRule;
        }

        /** A new PART of a kind; null if there is no room. */
        Part addPart(int kind) {
            if (size < 0 || size >= parts.length) {
                return null;
            }
            Part p = parts[size];
            if (p != null) {
                p.clear(kind);
                size++;
            }
            return p;
        }

        void setSpan(int low, int high) {
            first = low;
            last = high;
            mass = low;
        }

        void pullAt(long x, long y, int time) {
            px = 0;
            py = 0;
            for (int i = 0; i < size && i < parts.length; i++) {
                Part p = parts[i];
                if (p != null) {
                    p.addPull(this, x, y, time);
                }
            }
        }

        /** T of the first bar; 0 without one. */
        int firstPeriod() {
            for (int i = 0; i < size && i < parts.length; i++) {
                Part p = parts[i];
                if (p != null && p.kind == BAR) {
                    return p.period;
                }
            }
            return 0;
        }

        int massesBy(int pace) {
            return pace < 1 ? 0 : Math.min(MOST_MODELS, (last - first) / pace + 1);
        }
    }

    /** The E behind use, as steps on a stack: what they need stands before them. */
    private static final class Rule {
        private final int[] steps = new int[MOST_KNOTS];
        private final int[] numbers = new int[MOST_KNOTS];
        private final long[] stack = new long[MOST_KNOTS];
        private int size;
        private boolean error;
        boolean told;
        int knots;

        void clear() {
            size = 0;
            told = false;
            knots = 0;
        }

        void put(int step, int number) {
            if (size < steps.length) {
                steps[size] = step;
                numbers[size] = number;
                size++;
            }
        }

        boolean uses(Orbit orbit) {
            if (!told) {
                return true;
            }
            error = false;
            int top = 0;
            for (int i = 0; i < size && !error; i++) {
                int step = steps[i];
                if (step == NUMBER || step >= NEAR) {
                    if (top < stack.length) {
                        stack[top] = checked(step == NUMBER ? numbers[i] : orbit.named(step));
                        top++;
                    }
                } else if (step == NOT) {
                    if (top > 0) {
                        stack[top - 1] = bit(stack[top - 1] == 0);
                    }
                } else if (top > 1) {
                    top--;
                    stack[top - 1] = joined(step, stack[top - 1], stack[top]);
                }
            }
            return !error && top > 0 && stack[0] != 0;
        }

        private long joined(int sign, long a, long b) {
            switch (sign) {
                case PLUS: return checked(a + b);
                case MINUS: return checked(a - b);
                case TIMES: return product(a, b);
                case OVER: return quotient(a, b);
                case LESS: return bit(a < b);
                case AT_MOST: return bit(a <= b);
                case SAME: return bit(a == b);
                case UNLIKE: return bit(a != b);
                case AT_LEAST: return bit(a >= b);
                case MORE: return bit(a > b);
                case AND: return bit(a != 0 && b != 0);
                default: return bit(a != 0 || b != 0);
            }
        }

        /** Looks before it multiplies: the product of two values may be beyond a long. */
        private long product(long a, long b) {
            if (a != 0 && Math.abs(b) > MOST_VALUE / Math.abs(a)) {
                error = true;
                return 0;
            }
            return a * b;
        }

        private long quotient(long a, long b) {
            if (b == 0) {
                error = true;
                return 0;
            }
            return a / b;
        }

        private long checked(long value) {
            if (value > MOST_VALUE || value < -MOST_VALUE) {
                error = true;
            }
            return value;
        }

        private static long bit(boolean so) {
            return so ? 1 : 0;
        }
    }

    /** Reads a TEXT into a draft; it looks at one TOKEN at a time, so the first FAULT met is the first along the text. */
    private static final class Reader {
        private final byte[] text;
        /** What was read last; it is whole only without a FAULT. */
        final Field draft = new Field();
        private boolean spanTold;
        private int size;
        private int at;
        private int behind;
        private int token;
        private int value;
        /** The number taken last; the TOKEN behind it may be a number, too. */
        private int taken;
        int fault = 0;
        int place = NONE;

        Reader(byte[] text) {
            this.text = text;
        }

        void read(int n) {
            size = Math.min(n, text.length);
            behind = 0;
            fault = 0;
            place = NONE;
            spanTold = false;
            draft.clear();
            advance();
            for (int i = 0; i <= size && fault == 0 && token != END; i++) {
                boolean isPart = token >= HEAP && token <= GUEST;
                boolean fine = isPart ? part(token) : token == USE ? use() : wrong(FAULT_TOKEN);
                if (fine) {
                    expect(STOP);
                }
            }
        }

        private boolean part(int kind) {
            Part p = draft.addPart(kind);
            if (p == null) {
                return wrong(FAULT_MUCH);
            }
            advance();
            if ((kind == HEAP || kind == GUEST) && !spot(p) || kind == GUEST && !speed(p)) {
                return false;
            }
            if (!number(0, MOST_MASS)) {
                return false;
            }
            p.m = taken;
            if (kind == HALO && token == DOTS && !span(p)) {
                return false;
            }
            if (!number(1, MOST_SIZE)) {
                return false;
            }
            p.s = taken;
            return kind != BAR || period(p);
        }

        private boolean spot(Part p) {
            if (!signed(MOST_PLACE)) {
                return false;
            }
            p.x = taken;
            if (!signed(MOST_PLACE)) {
                return false;
            }
            p.y = taken;
            return true;
        }

        private boolean speed(Part p) {
            if (!signed(MOST_SPEED)) {
                return false;
            }
            p.u = taken;
            if (!signed(MOST_SPEED)) {
                return false;
            }
            p.v = taken;
            return true;
        }

        private boolean span(Part p) {
            if (spanTold) {
                return wrong(FAULT_SECOND);
            }
            advance();
            if (!number(p.m, MOST_MASS)) {
                return false;
            }
            p.spans = true;
            spanTold = true;
            draft.setSpan(p.m, taken);
            return true;
        }

        private boolean period(Part p) {
            if (!number(1, MOST_PERIOD)) {
                return false;
            }
            p.period = taken;
            return true;
        }

        private boolean signed(int limit) {
            boolean minus = token == MINUS;
            if (minus) {
                advance();
            }
            if (!number(0, limit)) {
                return false;
            }
            taken = minus ? -taken : taken;
            return true;
        }

        private boolean number(int low, int high) {
            if (token != NUMBER) {
                return wrong(FAULT_TOKEN);
            }
            if (value < low || value > high) {
                return wrong(FAULT_MUCH);
            }
            taken = value;
            advance();
            return true;
        }

        private boolean use() {
            if (draft.rule.told) {
                return wrong(FAULT_SECOND);
            }
            draft.rule.told = true;
            advance();
            return either(0);
        }

        private boolean either(int depth) {
            boolean fine = both(depth);
            for (int i = 0; i < MOST_KNOTS && fine && token == OR; i++) {
                fine = knot() && both(depth);
                draft.rule.put(OR, 0);
            }
            return fine;
        }

        private boolean both(int depth) {
            boolean fine = denied(depth);
            for (int i = 0; i < MOST_KNOTS && fine && token == AND; i++) {
                fine = knot() && denied(depth);
                draft.rule.put(AND, 0);
            }
            return fine;
        }

        private boolean denied(int depth) {
            int nots = 0;
            while (nots <= MOST_KNOTS && token == NOT) {
                if (!knot()) {
                    return false;
                }
                nots++;
            }
            boolean fine = compared(depth);
            for (int i = 0; i < nots; i++) {
                draft.rule.put(NOT, 0);
            }
            return fine;
        }

        private boolean compared(int depth) {
            if (!sum(depth)) {
                return false;
            }
            int sign = token;
            if (sign < LESS || sign > MORE) {
                return true;
            }
            boolean fine = knot() && sum(depth);
            draft.rule.put(sign, 0);
            return fine;
        }

        private boolean sum(int depth) {
            boolean fine = product(depth);
            for (int i = 0; i < MOST_KNOTS && fine && (token == PLUS || token == MINUS); i++) {
                int sign = token;
                fine = knot() && product(depth);
                draft.rule.put(sign, 0);
            }
            return fine;
        }

        private boolean product(int depth) {
            boolean fine = single(depth);
            for (int i = 0; i < MOST_KNOTS && fine && (token == TIMES || token == OVER); i++) {
                int sign = token;
                fine = knot() && single(depth);
                draft.rule.put(sign, 0);
            }
            return fine;
        }

        /** The depth is how many '(' are open. */
        private boolean single(int depth) {
            if (token == OPEN) {
                if (depth >= MOST_OPEN) {
                    return wrong(FAULT_MUCH);
                }
                advance();
                return either(depth + 1) && expect(CLOSE);
            }
            if (token < NEAR && token != NUMBER) {
                return wrong(FAULT_TOKEN);
            }
            if (token == NUMBER && value > MOST_NUMBER) {
                return wrong(FAULT_MUCH);
            }
            draft.rule.put(token, value);
            return knot();
        }

        /** Counts the TOKEN as a KNOT and goes on behind it. */
        private boolean knot() {
            if (draft.rule.knots >= MOST_KNOTS) {
                return wrong(FAULT_MUCH);
            }
            draft.rule.knots++;
            advance();
            return true;
        }

        private boolean expect(int wanted) {
            if (token != wanted) {
                return wrong(FAULT_TOKEN);
            }
            advance();
            return true;
        }

        private boolean wrong(int what) {
            fault = what;
            place = at;
            return false;
        }

        private void advance() {
            at = behind;
            while (at < size && (text[at] == 10 || text[at] == 32)) {
                at++;
            }
            behind = at;
            if (at >= size) {
                token = END;
            } else if (text[at] >= 'a' && text[at] <= 'z') {
                scanWord();
            } else if (text[at] >= '0' && text[at] <= '9') {
                scanNumber();
            } else {
                scanSign(text[at], at + 1 < size ? text[at + 1] : 0);
            }
        }

        private void scanWord() {
            while (behind < size && text[behind] >= 'a' && text[behind] <= 'z') {
                behind++;
            }
            token = BAD;
            for (int start = 0; start + WORD_WIDTH <= WORDS.length(); start += WORD_WIDTH) {
                int same = 0;
                while (same < WORD_WIDTH && at + same < behind && text[at + same] == WORDS.charAt(start + same)) {
                    same++;
                }
                if (same < WORD_WIDTH && at + same == behind && WORDS.charAt(start + same) == ' ') {
                    token = FIRST_WORD + start / WORD_WIDTH;
                }
            }
        }

        private void scanNumber() {
            token = NUMBER;
            value = 0;
            while (behind < size && text[behind] >= '0' && text[behind] <= '9') {
                // Any number above all limits tells the same, so it need not grow on.
                value = Math.min(value * 10 + text[behind] - '0', 1000000);
                behind++;
            }
        }

        private void scanSign(int sign, int next) {
            int width = 1;
            switch (sign) {
                case ';': token = STOP; break;
                case '(': token = OPEN; break;
                case ')': token = CLOSE; break;
                case '+': token = PLUS; break;
                case '-': token = MINUS; break;
                case '*': token = TIMES; break;
                case '/': token = OVER; break;
                case '=': token = SAME; break;
                case '<':
                    token = next == '=' ? AT_MOST : next == '>' ? UNLIKE : LESS;
                    width = token == LESS ? 1 : 2;
                    break;
                case '>':
                    token = next == '=' ? AT_LEAST : MORE;
                    width = token == MORE ? 1 : 2;
                    break;
                case '.':
                    token = next == '.' ? DOTS : BAD;
                    width = token == DOTS ? 2 : 1;
                    break;
                default: token = BAD; break;
            }
            behind = at + width;
        }
    }

    /** A star that does STEPS, and takes them back. */
    private static final class Star {
        long x;
        long y;
        long u;
        long v;
        int time;
        /** 1: GONE behind a STEP, -1: behind one BACK, 0: not GONE. */
        int gone;

        void put(int newX, int newY, int newU, int newV, int newTime) {
            x = newX;
            y = newY;
            u = newU;
            v = newV;
            time = newTime;
            gone = 0;
        }

        boolean step(Field field) {
            if (gone == 1 || time >= LAST_TIME) {
                return false;
            }
            field.pullAt(x, y, time);
            u += field.px;
            v += field.py;
            x += u;
            y += v;
            time++;
            gone = isBeyond() ? 1 : 0;
            return true;
        }

        boolean stepBack(Field field) {
            if (gone == -1 || time <= 0) {
                return false;
            }
            x -= u;
            y -= v;
            time--;
            field.pullAt(x, y, time);
            u -= field.px;
            v -= field.py;
            gone = isBeyond() ? -1 : 0;
            return true;
        }

        private boolean isBeyond() {
            return x > FAR_OUT || x < -FAR_OUT || y > FAR_OUT || y < -FAR_OUT;
        }
    }

    /** An ORBIT: where it starts, and all that is said of its way in THE FIELD of now. */
    private static final class Orbit {
        private int x;
        private int y;
        private int u;
        private int v;
        final int[][] track = new int[4][LAST_TIME + 1];
        int done;
        boolean gone;
        long near;
        long far;
        int turns;
        private int quarter;
        long spinLow;
        long spinHigh;
        final int[] returns = new int[LAST_TIME];
        int returned;
        final int[] shares = new int[MOST_CELLS];
        final int[] goings = new int[MOST_CELLS];
        boolean used;

        void begin(int newX, int newY, int newU, int newV) {
            x = newX;
            y = newY;
            u = newU;
            v = newV;
        }

        void run(Field field, int length, Star star) {
            star.put(x, y, u, v, 0);
            done = 0;
            turns = 0;
            returned = 0;
            quarter = 0;
            quarter = quarterAt(star.x, star.y);
            near = star.x * star.x + star.y * star.y;
            far = near;
            spinLow = star.x * star.v - star.y * star.u;
            spinHigh = spinLow;
            mark(star);
            for (int i = 0; i < length && star.step(field); i++) {
                done++;
                mark(star);
                turn(star);
                comeBack();
            }
            gone = star.gone != 0;
        }

        private void mark(Star star) {
            if (done >= 0 && done <= LAST_TIME) {
                track[0][done] = (int) star.x;
                track[1][done] = (int) star.y;
                track[2][done] = (int) star.u;
                track[3][done] = (int) star.v;
            }
            long square = star.x * star.x + star.y * star.y;
            near = Math.min(near, square);
            far = Math.max(far, square);
            long spin = star.x * star.v - star.y * star.u;
            spinLow = Math.min(spinLow, spin);
            spinHigh = Math.max(spinHigh, spin);
        }

        private void turn(Star star) {
            int next = quarterAt(star.x, star.y);
            int way = (next - quarter + 4) % 4;
            if (way == 1) {
                turns++;
            } else if (way == 3) {
                turns--;
            }
            quarter = next;
        }

        private int quarterAt(long atX, long atY) {
            if (atX > 0 && atY >= 0) {
                return 0;
            }
            if (atY > 0) {
                return 1;
            }
            if (atX < 0) {
                return 2;
            }
            return atY < 0 ? 3 : quarter;
        }

        private void comeBack() {
            if (done > 0 && done <= LAST_TIME && returned < returns.length && track[1][done - 1] < 0 && track[1][done] >= 0) {
                returns[returned] = track[0][done];
                returned++;
            }
        }

        void settle(Swarm sky) {
            Arrays.fill(shares, 0);
            Arrays.fill(goings, 0);
            for (int t = 1; t <= done && t <= LAST_TIME; t++) {
                int cell = sky.cellOf(track[0][t], track[1][t]);
                if (cell >= 0 && cell < MOST_CELLS) {
                    shares[cell]++;
                    goings[cell] += track[2][t];
                }
            }
        }

        int kind() {
            if (gone) {
                return LOST;
            }
            if (spinLow > 0 || spinHigh < 0) {
                return RING;
            }
            return spinLow == 0 && spinHigh == 0 ? LINE : BOX;
        }

        long named(int name) {
            switch (name) {
                case NEAR: return near;
                case FAR: return far;
                case TURNS: return turns;
                case SORT: return kind();
                case GONE: return gone ? done : 0;
                case RETURNS: return returned;
                default: return 0;
            }
        }

        boolean mostlyReturnsNear(Orbit other) {
            int close = 0;
            for (int i = 0; i < returned && i < returns.length; i++) {
                for (int k = 0; k < other.returned && k < other.returns.length; k++) {
                    if (Math.abs(returns[i] - other.returns[k]) <= 50) {
                        close++;
                        break;
                    }
                }
            }
            return close >= 1 && 2 * close >= returned;
        }
    }

    /** The ORBITS and the CELLS of their sky; ORBITS are gone anew when they are asked for and something has changed. */
    private static final class Swarm {
        private final Field field;
        private final Orbit[] orbits = new Orbit[MOST_ORBITS];
        private final Star walker = new Star();
        int size = 0;
        int length = 60;
        int g = 4;
        int r = 1000;
        boolean fresh = false;
        private int massOfRun = 0;

        Swarm(Field field) {
            this.field = field;
        }

        int cellOf(long x, long y) {
            if (r < 1 || x < -r || x >= r || y < -r || y >= r) {
                return NONE;
            }
            return (int) ((y + r) * g / (2 * r) * g + (x + r) * g / (2 * r));
        }

        int add(int x, int y, int u, int v) {
            if (size >= orbits.length) {
                return NONE;
            }
            Orbit o = new Orbit();
            o.begin(x, y, u, v);
            orbits[size] = o;
            size++;
            return size - 1;
        }

        /** An ORBIT as it is now; null if there is none such. */
        Orbit known(int number) {
            if (number < 0 || number >= size) {
                return null;
            }
            refresh();
            return latest(number);
        }

        /** An ORBIT as it was when all were gone last. */
        Orbit latest(int number) {
            return number < 0 || number >= orbits.length ? null : orbits[number];
        }

        void refresh() {
            if (fresh && massOfRun == field.mass) {
                return;
            }
            fresh = true;
            massOfRun = field.mass;
            for (int i = 0; i < size && i < orbits.length; i++) {
                Orbit o = orbits[i];
                if (o != null) {
                    o.run(field, length, walker);
                    o.settle(this);
                    o.used = field.rule.uses(o);
                }
            }
        }
    }

    /** NOTES: SIGHTS and STRIKES (a STRIKE's cell is the NOTE that it strikes). */
    private static final class Notes {
        final int[] kinds = new int[MOST_NOTES];
        final int[] cells = new int[MOST_NOTES];
        final int[] lows = new int[MOST_NOTES];
        final int[] highs = new int[MOST_NOTES];
        private final boolean[] counted = new boolean[MOST_NOTES];
        int size = 0;

        int add(int kind, int cell, int low, int high) {
            if (size >= MOST_NOTES) {
                return NONE;
            }
            kinds[size] = kind;
            cells[size] = cell;
            lows[size] = low;
            highs[size] = high;
            size++;
            return size - 1;
        }

        /** From now on the NOTES are as KNOWN by n; false if there is no such n. */
        boolean know(int n) {
            if (n < 0 || n > size) {
                return false;
            }
            for (int i = 0; i < MOST_NOTES; i++) {
                counted[i] = i < n;
            }
            // A STRIKE strikes only what was noted before it, so from the last one on each is settled when it is asked.
            for (int i = Math.min(n, MOST_NOTES) - 1; i >= 0; i--) {
                if (counted[i] && kinds[i] == STRIKE && cells[i] >= 0 && cells[i] < MOST_NOTES) {
                    counted[cells[i]] = false;
                }
            }
            return true;
        }

        boolean isSight(int i) {
            return i >= 0 && i < MOST_NOTES && counted[i] && kinds[i] != STRIKE;
        }
    }

    /** Goes through WEIGHTS in the order of FITS, by the NOTES that are known and the ORBITS as they were gone last. */
    private static final class Fits {
        private final Swarm swarm;
        private final Notes notes;
        private final int[] weights = new int[MOST_ORBITS];
        private final int[] users = new int[MOST_ORBITS];
        private int used;
        private final int[][] lights = new int[MOST_NOTES][MOST_ORBITS];
        private final int[][] goings = new int[MOST_NOTES][MOST_ORBITS];
        private final boolean[] together = new boolean[1 << MOST_NOTES];
        int portions = 6;

        Fits(Swarm swarm, Notes notes) {
            this.swarm = swarm;
            this.notes = notes;
        }

        /** To the first of FITS; false if there is none. */
        boolean first() {
            return begin() && (allHold() || next());
        }

        /** To the next one of FITS; false if there is none more. */
        boolean next() {
            for (int i = 0; i < MOST_WEIGHTS && shift(); i++) {
                if (allHold()) {
                    return true;
                }
            }
            return false;
        }

        int weightOf(int orbit) {
            return orbit >= 0 && orbit < MOST_ORBITS ? weights[orbit] : 0;
        }

        int lightOf(int cell) {
            int sum = 0;
            for (int i = 0; i < used && i < MOST_ORBITS; i++) {
                Orbit o = swarm.latest(users[i]);
                if (o != null && cell >= 0 && cell < MOST_CELLS) {
                    sum += weightOf(users[i]) * o.shares[cell];
                }
            }
            return sum;
        }

        /** To the first WEIGHTS: all to the first ORBIT that is USED; false if there is none. */
        private boolean begin() {
            used = 0;
            Arrays.fill(weights, 0);
            for (int i = 0; i < swarm.size && i < MOST_ORBITS; i++) {
                Orbit o = swarm.latest(i);
                if (o != null && o.used) {
                    users[used] = i;
                    used++;
                    gather(o, i);
                }
            }
            if (used < 1) {
                return false;
            }
            weights[users[0]] = portions;
            return true;
        }

        /** What an ORBIT gives to each SIGHT, laid out once, as thousands of WEIGHTS may ask for it. */
        private void gather(Orbit o, int orbit) {
            for (int i = 0; i < MOST_NOTES; i++) {
                int cell = notes.cells[i];
                if (notes.isSight(i) && cell >= 0 && cell < MOST_CELLS) {
                    lights[i][orbit] = o.shares[cell];
                    goings[i][orbit] = o.goings[cell];
                }
            }
        }

        /** To the next WEIGHTS: the last one that can gives one away, and all behind it goes to the one behind it. */
        private boolean shift() {
            int giver = used - 2;
            while (giver >= 0 && weights[users[giver]] == 0) {
                giver--;
            }
            if (giver < 0) {
                return false;
            }
            int last = users[used - 1];
            int rest = weights[last] + 1;
            weights[last] = 0;
            weights[users[giver]]--;
            weights[users[giver + 1]] = rest;
            return true;
        }

        private boolean allHold() {
            for (int i = 0; i < notes.size; i++) {
                if (notes.isSight(i) && !holds(i)) {
                    return false;
                }
            }
            return true;
        }

        private boolean holds(int sight) {
            if (sight < 0 || sight >= MOST_NOTES) {
                return false;
            }
            long light = summed(lights[sight]);
            boolean going = notes.kinds[sight] == GOING;
            long seen = going ? summed(goings[sight]) : 1000 * light;
            long scale = going ? light : (long) portions * swarm.length;
            return seen >= notes.lows[sight] * scale && seen <= notes.highs[sight] * scale;
        }

        private int summed(int[] given) {
            int sum = 0;
            for (int i = 0; i < used && i < MOST_ORBITS; i++) {
                sum += weights[users[i]] * given[users[i]];
            }
            return sum;
        }

        /** QUARREL as bits; 0 if there are FITS or no ORBIT is USED. */
        int fewestApart() {
            for (int set = 0; set < together.length; set++) {
                together[set] = false;
            }
            boolean more = begin();
            if (!more) {
                return 0;
            }
            for (int i = 0; i < MOST_WEIGHTS && more; i++) {
                together[holding()] = true;
                more = shift();
            }
            markParts();
            int best = 0;
            int known = knownBits();
            for (int set = 1; set < together.length; set++) {
                boolean apart = (set & ~known) == 0 && !together[set];
                if (apart && (best == 0 || Integer.bitCount(set) < Integer.bitCount(best))) {
                    best = set;
                }
            }
            return best;
        }

        /** The bits of the SIGHTS that hold by the WEIGHTS of now. */
        private int holding() {
            int bits = 0;
            for (int i = 0; i < notes.size && i < MOST_NOTES; i++) {
                if (notes.isSight(i) && holds(i)) {
                    bits |= 1 << i;
                }
            }
            return bits;
        }

        private int knownBits() {
            int bits = 0;
            for (int i = 0; i < MOST_NOTES; i++) {
                if (notes.isSight(i)) {
                    bits |= 1 << i;
                }
            }
            return bits;
        }

        /** What holds together also holds without some of it. */
        private void markParts() {
            for (int bit = 1; bit < together.length; bit <<= 1) {
                for (int set = 0; set < together.length; set++) {
                    if ((set & bit) != 0 && together[set]) {
                        together[set ^ bit] = true;
                    }
                }
            }
        }
    }

    /** MODELS by a pace, made once and kept until something changes. */
    private static final class Models {
        private final Field field;
        private final Swarm swarm;
        private final Notes notes;
        private final Fits fits;
        private final int[][] tells = new int[MOST_MODELS][MOST_CELLS];
        /** 0: they must be made anew. */
        int pace = 0;
        int size;
        int kept;
        int twin;
        int otherTwin;

        Models(Field field, Swarm swarm, Notes notes, Fits fits) {
            this.field = field;
            this.swarm = swarm;
            this.notes = notes;
            this.fits = fits;
        }

        void make(int newPace) {
            if (pace == newPace) {
                return;
            }
            pace = newPace;
            size = field.massesBy(newPace);
            kept = 0;
            notes.know(notes.size);
            int before = field.mass;
            for (int i = 0; i < size && i < MOST_MODELS; i++) {
                field.mass = massOf(i);
                swarm.refresh();
                if (fits.first()) {
                    kept |= 1 << i;
                    tell(i);
                }
            }
            field.mass = before;
            findTwins();
        }

        private void tell(int model) {
            for (int cell = 0; cell < MOST_CELLS; cell++) {
                tells[model][cell] = fits.lightOf(cell);
            }
        }

        private int massOf(int model) {
            return field.first + model * pace;
        }

        private boolean isKept(int model) {
            return (kept >> model & 1) == 1;
        }

        int leastMass() {
            for (int i = 0; i < size; i++) {
                if (isKept(i)) {
                    return massOf(i);
                }
            }
            return NONE;
        }

        int greatestMass() {
            for (int i = size - 1; i >= 0; i--) {
                if (isKept(i)) {
                    return massOf(i);
                }
            }
            return NONE;
        }

        int look(int cells) {
            if (Integer.bitCount(kept) < 2) {
                return NONE;
            }
            int best = NONE;
            int fewest = MOST_MODELS + 1;
            for (int cell = 0; cell < cells && cell < MOST_CELLS; cell++) {
                int most = mostAlike(cell);
                if (most < fewest) {
                    fewest = most;
                    best = cell;
                }
            }
            return best;
        }

        private int mostAlike(int cell) {
            int most = 0;
            for (int i = 0; i < size && i < MOST_MODELS; i++) {
                int same = 0;
                for (int k = 0; k < size && k < MOST_MODELS; k++) {
                    if (isKept(i) && isKept(k) && tells[i][cell] == tells[k][cell]) {
                        same++;
                    }
                }
                most = Math.max(most, same);
            }
            return most;
        }

        private void findTwins() {
            twin = NONE;
            otherTwin = NONE;
            for (int i = 0; i < size && i < MOST_MODELS; i++) {
                for (int k = i + 1; k < size && k < MOST_MODELS; k++) {
                    if (twin == NONE && isKept(i) && isKept(k) && seenAlike(i, k)) {
                        twin = i;
                        otherTwin = k;
                    }
                }
            }
        }

        private boolean seenAlike(int one, int other) {
            for (int i = 0; i < notes.size && i < MOST_NOTES; i++) {
                int cell = notes.cells[i];
                if (notes.isSight(i) && cell >= 0 && cell < MOST_CELLS && tells[one][cell] != tells[other][cell]) {
                    return false;
                }
            }
            return true;
        }

        int partingCell() {
            if (twin < 0 || otherTwin < 0) {
                return NONE;
            }
            for (int cell = 0; cell < MOST_CELLS; cell++) {
                if (tells[twin][cell] != tells[otherTwin][cell]) {
                    return cell;
                }
            }
            return NONE;
        }
    }

    /** The STREAM at hand; it has no stars as long as there is none. */
    private static final class Stream {
        private int x;
        private int y;
        private int u;
        private int v;
        private int a;
        private int b;
        private int c;
        private int d;
        private final Star walker = new Star();
        int stars = 0;
        int steps = 0;

        void begin(int newX, int newY, int newU, int newV) {
            x = newX;
            y = newY;
            u = newU;
            v = newV;
        }

        void apart(int newA, int newB, int newC, int newD) {
            a = newA;
            b = newB;
            c = newC;
            d = newD;
        }

        /** TRAIL by THE MASS that the field has now. */
        long cellBits(Field field, Swarm sky) {
            long bits = 0;
            for (int i = 0; i < stars; i++) {
                walker.put(x + i * a, y + i * b, u + i * c, v + i * d, 0);
                int done = 0;
                while (done < steps && walker.step(field)) {
                    done++;
                }
                int cell = walker.gone == 0 ? sky.cellOf(walker.x, walker.y) : NONE;
                if (cell != NONE) {
                    bits |= 1L << cell;
                }
            }
            return bits;
        }
    }
}
