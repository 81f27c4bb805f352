import java.lang.reflect.Array;
import java.util.ArrayList;
import java.util.Arrays;
import java.util.Collections;
import java.util.List;

/**
 * The document once more, written apart from the program and with all that Java has: arrays of every kind, heirs and
 * faces, NaN, Math.sqrt, and failures that the machine throws itself. BesideSecondWallTest holds both against each other.
 */
public final class SecondWall {
    static final int NONE = -1, UNKNOWN = -2000000001, OUTSIDE = -2000000002, STATE = -2000000003, FULL = -2000000004, FAILED = -2000000010;
    static final long BIG = 1000000000000000L;

    static final class Worded extends RuntimeException {
        final int word;

        Worded(int word) {
            this.word = word;
        }
    }

    /** HELD, with the WORD that a FAIL gives it, or 0 where a hold is not there. */
    static final class Held extends RuntimeException {
        final int word;

        Held(int word) {
            this.word = word;
        }
    }

    static final class Answered extends RuntimeException {
        final int answer;

        Answered(int answer) {
            this.answer = answer;
        }
    }

    interface Doing {
        long go();
    }

    private int failure, word;

    private long tried(Doing doing) {
        try {
            long answer = doing.go();
            failure = 0;
            word = 0;
            return answer;
        } catch (RuntimeException e) {
            failure = numberOf(e);
            word = wordOf(e);
            return FAILED - failure;
        }
    }

    static int wordOf(RuntimeException e) {
        if (e instanceof Held) return ((Held) e).word;
        return e instanceof Worded ? ((Worded) e).word : 0;
    }

    static int numberOf(RuntimeException e) {
        if (e instanceof NullPointerException) return 1;
        if (e instanceof IndexOutOfBoundsException) return 2;
        if (e instanceof NegativeArraySizeException) return 3;
        if (e instanceof ClassCastException) return 4;
        if (e instanceof ArrayStoreException) return 5;
        if (e instanceof ArithmeticException) return 6;
        if (e instanceof Held) return 7;
        if (e instanceof Worded) return 8;
        throw e;
    }

    static double d(long bits) {
        return Double.longBitsToDouble(bits);
    }

    static long b(double d) {
        return Double.doubleToLongBits(d);
    }

    static boolean in(double d, double low, double high) {
        return d >= low && d <= high;
    }

    static boolean bad(int number, int size) {
        return number < -1 || number >= size;
    }

    static boolean not(int number, int size) {
        return number < 0 || number >= size;
    }

    static <T> T at(List<T> list, int i) {
        return i == NONE ? null : list.get(i);
    }

    // rows

    private final List<Object> rows = new ArrayList<>();

    static Object made(int kind, int n) {
        Class<?>[] types = {short.class, int.class, float.class, double.class, char.class, byte.class, boolean.class, long.class};
        return Array.newInstance(types[kind], n);
    }

    static int kindOf(Object row) {
        Class<?>[] types = {short[].class, int[].class, float[].class, double[].class, char[].class, byte[].class, boolean[].class, long[].class};
        return Arrays.asList(types).indexOf(row.getClass());
    }

    static void store(Object row, int i, long v) {
        if (row instanceof short[]) ((short[]) row)[i] = (short) v;
        else if (row instanceof int[]) ((int[]) row)[i] = (int) v;
        else if (row instanceof float[]) ((float[]) row)[i] = v;
        else if (row instanceof double[]) ((double[]) row)[i] = v;
        else if (row instanceof char[]) ((char[]) row)[i] = (char) v;
        else if (row instanceof byte[]) ((byte[]) row)[i] = (byte) v;
        else if (row instanceof boolean[]) ((boolean[]) row)[i] = v != 0;
        else ((long[]) row)[i] = v;
    }

    static void storeReal(Object row, int i, double v) {
        if (row instanceof short[]) ((short[]) row)[i] = (short) v;
        else if (row instanceof int[]) ((int[]) row)[i] = (int) v;
        else if (row instanceof float[]) ((float[]) row)[i] = (float) v;
        else if (row instanceof double[]) ((double[]) row)[i] = v;
        else if (row instanceof char[]) ((char[]) row)[i] = (char) v;
        else if (row instanceof byte[]) ((byte[]) row)[i] = (byte) v;
        else if (row instanceof boolean[]) ((boolean[]) row)[i] = v != 0.0;
        else ((long[]) row)[i] = (long) v;
    }

    static long whole(Object row, int i) {
        if (row instanceof short[]) return ((short[]) row)[i];
        if (row instanceof int[]) return ((int[]) row)[i];
        if (row instanceof float[]) return (long) ((float[]) row)[i];
        if (row instanceof double[]) return (long) ((double[]) row)[i];
        if (row instanceof char[]) return ((char[]) row)[i];
        if (row instanceof byte[]) return ((byte[]) row)[i];
        if (row instanceof boolean[]) return ((boolean[]) row)[i] ? 1 : 0;
        return ((long[]) row)[i];
    }

    static double real(Object row, int i) {
        if (row instanceof float[]) return ((float[]) row)[i];
        if (row instanceof double[]) return ((double[]) row)[i];
        return (double) whole(row, i);
    }

    static long more(Object row, int i, long v, boolean before) {
        long was = whole(row, i);
        if (row instanceof short[]) ((short[]) row)[i] += v;
        else if (row instanceof int[]) ((int[]) row)[i] += v;
        else if (row instanceof float[]) ((float[]) row)[i] += (float) v;
        else if (row instanceof double[]) ((double[]) row)[i] += (double) v;
        else if (row instanceof char[]) ((char[]) row)[i] += v;
        else if (row instanceof byte[]) ((byte[]) row)[i] += v;
        else if (row instanceof boolean[]) ((boolean[]) row)[i] ^= v % 2 != 0;
        else ((long[]) row)[i] += v;
        return before ? was : whole(row, i);
    }

    static int length(Object row) {
        if (row == null) throw new NullPointerException();
        return Array.getLength(row);
    }

    static Object sure(Object row) {
        if (row == null) throw new NullPointerException();
        return row;
    }

    private int kept(Object row) {
        rows.add(row);
        return rows.size() - 1;
    }

    public int row(int kind, int n) {
        if (not(kind, 8) || n > 64) return OUTSIDE;
        if (rows.size() == 40) return FULL;
        return (int) tried(() -> kept(made(kind, n)));
    }

    public int put(int row, int i, long v) {
        if (bad(row, rows.size())) return UNKNOWN;
        return (int) tried(() -> {
            store(sure(at(rows, row)), i, v);
            return 1;
        });
    }

    public int putReal(int row, int i, long bits) {
        if (bad(row, rows.size())) return UNKNOWN;
        return (int) tried(() -> {
            storeReal(sure(at(rows, row)), i, d(bits));
            return 1;
        });
    }

    public long get(int row, int i) {
        if (bad(row, rows.size())) return UNKNOWN;
        return tried(() -> whole(sure(at(rows, row)), i));
    }

    public long getReal(int row, int i) {
        if (bad(row, rows.size())) return UNKNOWN;
        return tried(() -> b(real(sure(at(rows, row)), i)));
    }

    public long raise(int row, int i, long v, boolean before) {
        if (bad(row, rows.size())) return UNKNOWN;
        return tried(() -> more(sure(at(rows, row)), i, v, before));
    }

    public int join(int a, int b) {
        if (bad(a, rows.size()) || bad(b, rows.size())) return UNKNOWN;
        Object x = at(rows, a), y = at(rows, b);
        if (x == null || y == null) return (int) tried(() -> length(null));
        int n = length(x) + length(y);
        if (n > 64) return OUTSIDE;
        if (rows.size() == 40) return FULL;
        return (int) tried(() -> {
            Object both = made(kindOf(x), n);
            System.arraycopy(y, 0, both, length(x), length(y));
            System.arraycopy(x, 0, both, 0, length(x));
            return kept(both);
        });
    }

    public int shift(int from, int i, int to, int k, int n) {
        if (bad(from, rows.size()) || bad(to, rows.size())) return UNKNOWN;
        return (int) tried(() -> {
            System.arraycopy(at(rows, from), i, at(rows, to), k, n);
            return 1;
        });
    }

    public int like(int a, int b) {
        if (bad(a, rows.size()) || bad(b, rows.size())) return UNKNOWN;
        Object[] x = {at(rows, a)}, y = {at(rows, b)};
        return Arrays.deepEquals(x, y) ? 1 : 0;
    }

    public int count(int row, int what) {
        if (bad(row, rows.size())) return UNKNOWN;
        if (not(what, 3)) return OUTSIDE;
        return (int) tried(() -> {
            Object of = at(rows, row);
            int n = length(of), many = 0;
            for (int i = 0; i < n; i++) many += whole(of, i) == 0 ? 0 : 1;
            return what == 0 ? n : what == 1 ? kindOf(of) : many;
        });
    }

    public int find(int row, long v) {
        if (bad(row, rows.size())) return UNKNOWN;
        return (int) tried(() -> {
            int found = NONE;
            for (int i = 0; i < length(at(rows, row)); i++) if (whole(at(rows, row), i) == v) found = i;
            return length(at(rows, row)) == 0 ? NONE : found;
        });
    }

    public long mean(int row) {
        if (bad(row, rows.size())) return UNKNOWN;
        return tried(() -> {
            long sum = 0;
            for (int i = 0; i < length(at(rows, row)); i++) sum += whole(at(rows, row), i);
            return sum / length(at(rows, row));
        });
    }

    // beds

    private final List<Object[]> beds = new ArrayList<>();

    public int bed(int kind, int strips, int cells) {
        if (kind != 1 && kind != 3 && kind != 6 || strips > 16 || cells > 64) return OUTSIDE;
        if (beds.size() == 20) return FULL;
        return (int) tried(() -> {
            Object[] bed;
            if (kind == 1) bed = cells == NONE ? new int[strips][] : new int[strips][cells];
            else if (kind == 3) bed = cells == NONE ? new double[strips][] : new double[strips][cells];
            else bed = cells == NONE ? new boolean[strips][] : new boolean[strips][cells];
            beds.add(bed);
            return beds.size() - 1;
        });
    }

    public int lay(int bed, int i, int row) {
        if (not(bed, beds.size()) || bad(row, rows.size())) return UNKNOWN;
        return (int) tried(() -> {
            beds.get(bed)[i] = at(rows, row);
            return 1;
        });
    }

    public long spot(int bed, int i, int j) {
        if (not(bed, beds.size())) return UNKNOWN;
        return tried(() -> whole(sure(beds.get(bed)[i]), j));
    }

    public int setSpot(int bed, int i, int j, long v) {
        if (not(bed, beds.size())) return UNKNOWN;
        return (int) tried(() -> {
            store(sure(beds.get(bed)[i]), j, v);
            return 1;
        });
    }

    public int bare(int bed, int k) {
        if (not(bed, beds.size())) return UNKNOWN;
        List<Integer> bare = new ArrayList<>();
        for (int i = 0; i < beds.get(bed).length; i++) if (beds.get(bed)[i] == null) bare.add(i);
        return kth(bare, k);
    }

    static int kth(List<Integer> list, int k) {
        if (k == -1) return list.size();
        return not(k, list.size()) ? NONE : list.get(k);
    }

    // things, racks, boxes, cards

    interface Reads {
        int sign();

        int weight();

        default int reading() {
            return 10 * sign() + weight();
        }
    }

    interface Strong {
        int sign();

        int weight();

        default int strength() {
            return 5 * weight() + sign();
        }
    }

    interface Costs {
        int sign();

        int weight();

        default int cost() {
            return weight() * weight();
        }
    }

    abstract static class Thing {
        int load;
        final int making;

        Thing() {
            making = sign() * 1000 + load;
        }

        abstract int own();

        public int sign() {
            return own();
        }

        public int weight() {
            return load;
        }
    }

    static class Floating extends Thing implements Reads {
        int own() {
            return 11;
        }
    }

    static class Wire extends Floating implements Costs {
        int own() {
            return 12;
        }

        public int weight() {
            return super.weight() + 7;
        }

        public int reading() {
            return 3 * weight();
        }
    }

    static class Flap extends Thing implements Strong {
        int own() {
            return 21;
        }
    }

    static class Roller extends Flap implements Costs {
        public int strength() {
            return super.strength() + 100;
        }
    }

    static class Earth extends Thing implements Strong {
        int own() {
            return 31;
        }
    }

    static class Stone extends Earth implements Costs {
        int own() {
            return 32;
        }

        public int weight() {
            return 2 * super.weight();
        }

        public int cost() {
            return Costs.super.cost() - sign();
        }
    }

    static final Class<?>[] BUILT = {Floating.class, Wire.class, Flap.class, Roller.class, Earth.class, Stone.class, Reads.class, Strong.class, Costs.class, Thing.class};

    private final List<Thing> things = new ArrayList<>();
    private final List<Object[]> racks = new ArrayList<>();
    private final Object[] boxes = new Object[10];

    public int thing(int sort, int load) {
        if (not(sort, 6) || not(load, 1001)) return OUTSIDE;
        if (things.size() == 40) return FULL;
        Thing thing = sort == 0 ? new Floating() : sort == 1 ? new Wire() : sort == 2 ? new Flap() : sort == 3 ? new Roller() : sort == 4 ? new Earth() : new Stone();
        thing.load = load;
        things.add(thing);
        return things.size() - 1;
    }

    static int ask(Object o, int ask) {
        if (o == null) throw new NullPointerException();
        switch (ask) {
            case 0: return ((Thing) o).sign();
            case 1: return ((Thing) o).weight();
            case 2: return ((Reads) o).reading();
            case 3: return ((Strong) o).strength();
            case 4: return ((Costs) o).cost();
            default: return ((Thing) o).making;
        }
    }

    public int says(int thing, int ask) {
        if (bad(thing, things.size())) return UNKNOWN;
        if (not(ask, 6)) return OUTSIDE;
        return (int) tried(() -> ask(at(things, thing), ask));
    }

    public int rack(int built, int n) {
        if (not(built, 10) || n > 16) return OUTSIDE;
        if (racks.size() == 20) return FULL;
        return (int) tried(() -> {
            racks.add((Object[]) Array.newInstance(BUILT[built], n));
            return racks.size() - 1;
        });
    }

    public int hang(int rack, int i, int thing) {
        if (bad(rack, racks.size()) || bad(thing, things.size())) return UNKNOWN;
        return (int) tried(() -> {
            at(racks, rack)[i] = at(things, thing);
            return 1;
        });
    }

    public int down(int rack, int i, int as) {
        if (bad(rack, racks.size())) return UNKNOWN;
        if (not(as, 10)) return OUTSIDE;
        return (int) tried(() -> {
            Object o = BUILT[as].cast(at(racks, rack)[i]);
            at(racks, rack)[i] = null;
            return things.indexOf(o);
        });
    }

    public int hung(int rack, int i) {
        if (bad(rack, racks.size())) return UNKNOWN;
        return (int) tried(() -> things.indexOf(at(racks, rack)[i]));
    }

    public int asked(int rack, int i, int ask) {
        if (bad(rack, racks.size())) return UNKNOWN;
        if (not(ask, 6)) return OUTSIDE;
        return (int) tried(() -> ask(at(racks, rack)[i], ask));
    }

    public int haul(int from, int i, int to, int k, int n) {
        if (bad(from, racks.size()) || bad(to, racks.size())) return UNKNOWN;
        int[] hangs = {0};
        int answer = (int) tried(() -> {
            Object[] source = at(racks, from), target = at(racks, to);
            System.arraycopy(source, i, new Object[source.length + target.length], 0, n);
            System.arraycopy(new Object[source.length + target.length], 0, target.clone(), k, n);
            Object[] was = source.clone();
            for (int j = 0; j < n; j++) {
                target[k + j] = was[i + j];
                hangs[0]++;
            }
            return n;
        });
        if (failure == 5) word = hangs[0];
        return answer;
    }

    public int box(int box, int what, int number) {
        if (not(box, 10)) return UNKNOWN;
        if (not(what, 5)) return OUTSIDE;
        List<?> of = what == 1 ? rows : what == 2 ? things : what == 3 ? racks : beds;
        if (what != 0 && not(number, of.size())) return UNKNOWN;
        boxes[box] = what == 0 ? null : of.get(number);
        return 1;
    }

    static final Class<?>[] KINDS = {short[].class, int[].class, float[].class, double[].class, char[].class, byte[].class, boolean[].class, long[].class,
        Thing.class, Reads.class, Wire.class, Reads[].class, Floating[].class, int[][].class};

    public int isA(int box, int kind) {
        if (not(box, 10)) return UNKNOWN;
        if (not(kind, 14)) return OUTSIDE;
        return KINDS[kind].isInstance(boxes[box]) ? 1 : 0;
    }

    public int taken(int box, int kind) {
        if (not(box, 10)) return UNKNOWN;
        if (not(kind, 14)) return OUTSIDE;
        return (int) tried(() -> {
            Object o = KINDS[kind].cast(boxes[box]);
            return o == null ? NONE : o instanceof Thing ? things.indexOf(o) : length(o);
        });
    }

    public int used(int box) {
        if (not(box, 10)) return UNKNOWN;
        return (int) tried(() -> boxes[box] instanceof Thing ? ((Thing) boxes[box]).weight() : length(boxes[box]));
    }

    static final class Card {
        Object[] fields = {new byte[1], new short[1], new char[1], new int[1], new long[1], new float[1], new double[1], new boolean[1]};
        Card next;
        Thing thing;
    }

    private final List<Card> cards = new ArrayList<>();

    public int card() {
        if (cards.size() == 20) return FULL;
        cards.add(new Card());
        return cards.size() - 1;
    }

    public int field(int card, int f, long v) {
        if (bad(card, cards.size())) return UNKNOWN;
        if (not(f, 8)) return OUTSIDE;
        return (int) tried(() -> {
            store(at(cards, card).fields[f], 0, v);
            return 1;
        });
    }

    public long fieldOf(int card, int f) {
        if (bad(card, cards.size())) return UNKNOWN;
        if (not(f, 8)) return OUTSIDE;
        return tried(() -> whole(at(cards, card).fields[f], 0));
    }

    public long raiseField(int card, int f, long v, boolean before) {
        if (bad(card, cards.size())) return UNKNOWN;
        if (not(f, 8)) return OUTSIDE;
        return tried(() -> more(at(cards, card).fields[f], 0, v, before));
    }

    public int link(int card, int next, int thing) {
        if (bad(card, cards.size()) || bad(next, cards.size()) || bad(thing, things.size())) return UNKNOWN;
        return (int) tried(() -> {
            at(cards, card).next = at(cards, next);
            at(cards, card).thing = at(things, thing);
            return 1;
        });
    }

    public int along(int card, int n) {
        if (bad(card, cards.size())) return UNKNOWN;
        if (not(n, 101)) return OUTSIDE;
        return (int) tried(() -> {
            Card at = at(cards, card);
            if (at == null) throw new NullPointerException();
            for (int i = 0; i < n; i++) {
                at = at.next;
                if (at == null) return NONE;
            }
            return cards.indexOf(at);
        });
    }

    public int ring(int card) {
        if (bad(card, cards.size())) return UNKNOWN;
        return (int) tried(() -> {
            List<Card> seen = new ArrayList<>();
            Card at = at(cards, card);
            do {
                seen.add(at);
                at = at.next;
            } while (at != null && !seen.contains(at));
            return cards.indexOf(at);
        });
    }

    public int cardAsk(int card, int ask) {
        if (bad(card, cards.size())) return UNKNOWN;
        if (not(ask, 6)) return OUTSIDE;
        return (int) tried(() -> ask(at(cards, card).thing, ask));
    }

    public int copy(int card) {
        if (bad(card, cards.size())) return UNKNOWN;
        if (card != NONE && cards.size() == 20) return FULL;
        return (int) tried(() -> {
            Card of = at(cards, card), same = new Card();
            same.next = of.next;
            for (int f = 0; f < 8; f++) System.arraycopy(of.fields[f], 0, same.fields[f], 0, 1);
            same.thing = of.thing;
            cards.add(same);
            return cards.size() - 1;
        });
    }

    // flows, sums

    public long flow(int row, int what) {
        if (bad(row, rows.size())) return UNKNOWN;
        if (not(what, 7)) return OUTSIDE;
        Object of = at(rows, row);
        if (of != null && !(of instanceof float[]) && !(of instanceof double[])) return STATE;
        return tried(() -> {
            List<Double> numbers = new ArrayList<>();
            for (int i = 0; i < length(of); i++) if (what >= 4 || !Double.isNaN(real(of, i))) numbers.add(real(of, i));
            for (double n : numbers) if (Double.isNaN(n)) return b(Double.NaN);
            if (numbers.isEmpty()) return b(Double.NaN);
            if (what == 3) {
                Collections.sort(numbers);
                return b(numbers.get((numbers.size() - 1) / 2));
            }
            double low = numbers.get(0), high = numbers.get(0), sum = 0.0;
            for (double n : numbers) {
                if (n < low) low = n;
                if (n > high) high = n;
                sum += n;
            }
            return b(what % 4 == 0 ? low : what % 4 == 1 ? high : sum / numbers.size());
        });
    }

    static boolean compared(double x, double y, int op) {
        return op == 0 ? x < y : op == 1 ? x <= y : op == 2 ? x > y : op == 3 ? x >= y : op == 4 ? x == y : x != y;
    }

    public int test(int row, int i, int j, int op, boolean denied) {
        if (bad(row, rows.size())) return UNKNOWN;
        if (not(op, 6)) return OUTSIDE;
        Object of = at(rows, row);
        if (of != null && !(of instanceof float[]) && !(of instanceof double[])) return STATE;
        return (int) tried(() -> compared(real(sure(of), i), real(of, j), op) ^ denied ? 1 : 0);
    }

    public long quotient(long a, long b, int what) {
        if (not(what, 6)) return OUTSIDE;
        return tried(() -> {
            switch (what) {
                case 0: return a / b;
                case 1: return a % b;
                case 2: return (int) a / (int) b;
                case 3: return (int) a % (int) b;
                default:
                    java.math.BigInteger y = java.math.BigInteger.valueOf(b);
                    java.math.BigInteger sum = java.math.BigInteger.valueOf(a).add(what == 4 ? y : y.negate());
                    return sum.max(java.math.BigInteger.valueOf(Long.MIN_VALUE)).min(java.math.BigInteger.valueOf(Long.MAX_VALUE)).longValue();
            }
        });
    }

    // acts

    private final List<List<int[]>> plans = new ArrayList<>();
    private final int[] depths = new int[4], notches = new int[4];
    private final List<Integer> signals = new ArrayList<>();
    private long litres;
    private int answer, begun, putBy;

    public SecondWall() {
        for (int i = 0; i < 12; i++) plans.add(new ArrayList<>());
        Arrays.fill(nextReadings, Double.NaN);
        Arrays.fill(hands, Double.NaN);
        for (double[] run : inflows) Arrays.fill(run, Double.NaN);
        Arrays.fill(releases, Double.NaN);
    }

    public int step(int plan, int op, int a, int b, int c, int d) {
        if (not(plan, 12)) return UNKNOWN;
        if (not(op, 10)) return OUTSIDE;
        if (op == 1 && (a < 0 || a > 1000000000)) return OUTSIDE;
        if (op == 2 && (a < 1 || a > 8 || not(b, 100))) return OUTSIDE;
        if ((op == 3 || op == 4) && not(a, 4)) return OUTSIDE;
        if ((op == 6 || op == 7) && not(a, 12)) return OUTSIDE;
        if (op == 7 && (not(b, 10) || bad(c, 12) || bad(d, 12))) return OUTSIDE;
        if (plans.get(plan).size() == 12) return FULL;
        plans.get(plan).add(new int[] {op, a, b, c, d});
        return plans.get(plan).size();
    }

    public int wipe(int plan) {
        if (not(plan, 12)) return UNKNOWN;
        int had = plans.get(plan).size();
        plans.get(plan).clear();
        return had;
    }

    private void done(int plan, int depth) {
        if (depth == 9) throw new Worded(3);
        List<Integer> held = new ArrayList<>();
        try {
            for (int[] s : plans.get(plan)) {
                if (begun == 48) throw new Worded(3);
                begun++;
                if (s[0] == 3) held.add(0, s[1]);
                doStep(s, depth);
            }
        } finally {
            for (int gate : held) depths[gate]--;
        }
    }

    private void doStep(int[] s, int depth) {
        int a = s[1], b = s[2];
        switch (s[0]) {
            case 0:
                store(sure(a < 0 || a >= rows.size() ? null : rows.get(a)), b, s[3]);
                break;
            case 1:
                if (litres < a) throw new Worded(1);
                litres -= a;
                break;
            case 2: throw thrown(a, b);
            case 3:
                depths[a]++;
                break;
            case 4:
                if (depths[a] == 0) throw new Held(0);
                long turned = (long) notches[a] + b;
                notches[a] = turned < 0 ? 0 : turned > 100 ? 100 : (int) turned;
                break;
            case 5:
                if (signals.size() < 60) signals.add(a);
                break;
            case 6:
                done(a, depth + 1);
                break;
            case 7:
                tryDone(s, depth + 1);
                break;
            case 8: throw new Answered(a);
            default:
                long sum = litres + (long) a / (long) b;
                if (sum < 0 || sum > BIG) throw new Worded(2);
                litres = sum;
        }
    }

    private static RuntimeException thrown(int a, int b) {
        switch (a) {
            case 1: return new NullPointerException();
            case 2: return new ArrayIndexOutOfBoundsException();
            case 3: return new NegativeArraySizeException();
            case 4: return new ClassCastException();
            case 5: return new ArrayStoreException();
            case 6: return new ArithmeticException();
            case 7: return new Held(b);
            default: return new Worded(b);
        }
    }

    private void tryDone(int[] s, int depth) {
        boolean[] underWay = {true};
        try {
            try {
                done(s[1], depth);
            } catch (Answered e) {
                throw e;
            } catch (RuntimeException e) {
                int n = numberOf(e);
                if (s[2] != 0 && s[2] != n && !(s[2] == 9 && n <= 7)) throw e;
                if (s[3] != NONE) done(s[3], depth);
            }
            underWay[0] = false;
        } finally {
            if (s[4] != NONE) {
                boolean fine = false;
                try {
                    done(s[4], depth);
                    fine = true;
                } finally {
                    if (!fine && underWay[0]) putBy++;
                }
            }
        }
    }

    public int act(int plan) {
        if (not(plan, 12)) return UNKNOWN;
        begun = 0;
        putBy = 0;
        answer = 0;
        List<Object> were = new ArrayList<>();
        for (Object row : rows) {
            Object was = made(kindOf(row), length(row));
            System.arraycopy(row, 0, was, 0, length(row));
            were.add(was);
        }
        long litresWere = litres;
        return (int) tried(() -> {
            try {
                done(plan, 1);
                return 0;
            } catch (Answered e) {
                answer = e.answer;
                return 1;
            } catch (RuntimeException e) {
                for (int i = 0; i < were.size(); i++) System.arraycopy(were.get(i), 0, rows.get(i), 0, length(rows.get(i)));
                litres = litresWere;
                throw e;
            }
        });
    }

    public int raised(int what) {
        int[] all = {failure, word, answer, begun, putBy};
        return not(what, 5) ? OUTSIDE : all[what];
    }

    public long stock(long n) {
        if (n < 0 || n > BIG) return OUTSIDE;
        long was = litres;
        litres = n;
        return was;
    }

    public int gate(int gate, int what) {
        if (not(gate, 4)) return UNKNOWN;
        if (not(what, 2)) return OUTSIDE;
        return what == 0 ? depths[gate] : notches[gate];
    }

    public int signal(int i) {
        return not(i, signals.size()) ? NONE : signals.get(i);
    }

    // the lake

    private final double[] nextReadings = new double[6], hands = new double[4];
    private final List<double[]> readings = new ArrayList<>();
    private final List<boolean[]> fars = new ArrayList<>();
    private final List<Double> tolds = new ArrayList<>();
    private final boolean[] sticks = new boolean[4];
    private final int[] fates = new int[6], moves = new int[4];
    private final double[] openings = new double[4];
    private double watchman = Double.NaN, volume = 100000.0, snow, ground, inflow, out, spill, lack, rate = 0.125;
    private int unheard;

    static double t(int k) {
        return 1000.0 * k * k + 2000.0 * k;
    }

    static double level(double volume) {
        int k = 0;
        for (int j = 0; j <= 39; j++) if (t(j) <= volume) k = j;
        return k + (volume - t(k)) / (t(k + 1) - t(k));
    }

    static double rooted(double level) {
        return level > 0.0 ? Math.sqrt(level) : 0.0;
    }

    public long table(int k) {
        return tried(() -> {
            long[] all = new long[41];
            for (int i = 0; i < 41; i++) all[i] = (long) t(i);
            return all[k];
        });
    }

    public long turned(long bits) {
        return in(d(bits), 0.0, t(40)) ? b(level(d(bits))) : OUTSIDE;
    }

    public int reading(int gauge, long bits) {
        if (not(gauge, 6)) return UNKNOWN;
        if (!Double.isNaN(d(bits)) && !in(d(bits), -1000.0, 1000.0)) return OUTSIDE;
        nextReadings[gauge] = d(bits);
        return 1;
    }

    public int word(long bits) {
        if (!Double.isNaN(d(bits)) && !in(d(bits), 0.0, 100.0)) return OUTSIDE;
        watchman = d(bits);
        return 1;
    }

    public int stuck(int gate, boolean is) {
        if (not(gate, 4)) return UNKNOWN;
        boolean was = sticks[gate];
        sticks[gate] = is;
        return was ? 1 : 0;
    }

    public int hand(int gate, long bits) {
        if (not(gate, 4)) return UNKNOWN;
        if (!Double.isNaN(d(bits)) && !in(d(bits), 0.0, 1.0)) return OUTSIDE;
        hands[gate] = d(bits);
        return 1;
    }

    public int rate(long bits) {
        if (!in(d(bits), 0.0, 1.0)) return OUTSIDE;
        rate = d(bits);
        return 1;
    }

    private boolean hangs(int gauge) {
        int now = readings.size() - 1;
        if (now < 3) return false;
        boolean still = true, stirs = false;
        for (int s = now - 3; s <= now; s++) {
            if (Double.isNaN(readings.get(s)[gauge]) || b(readings.get(s)[gauge]) != b(readings.get(now)[gauge])) still = false;
            for (int r = now - 3; r <= now; r++) {
                for (int g = 0; g < 6; g++) {
                    double x = readings.get(s)[g], y = readings.get(r)[g];
                    if (g != gauge && !Double.isNaN(x) && !Double.isNaN(y) && b(x) != b(y)) stirs = true;
                }
            }
        }
        return still && stirs;
    }

    private double voice() {
        readings.add(nextReadings.clone());
        Arrays.fill(nextReadings, Double.NaN);
        int now = readings.size() - 1;
        boolean[] far = new boolean[6];
        for (int g = 0; g < 6; g++) far[g] = now > 0 && Math.abs(readings.get(now)[g] - tolds.get(now - 1)) > 0.5;
        fars.add(far);
        List<Double> heard = new ArrayList<>();
        for (int g = 0; g < 6; g++) {
            boolean long3 = now >= 3 && fars.get(now - 1)[g] && fars.get(now - 2)[g] && fars.get(now - 3)[g];
            fates[g] = Double.isNaN(readings.get(now)[g]) ? 1 : hangs(g) ? 2 : far[g] && !long3 ? 3 : 0;
            if (fates[g] == 0) heard.add(readings.get(now)[g]);
        }
        heard.sort((x, y) -> x < y ? -1 : x > y ? 1 : 0);
        double said = watchman;
        watchman = Double.NaN;
        return !Double.isNaN(said) ? said : heard.isEmpty() ? Double.NaN : heard.get((heard.size() - 1) / 2);
    }

    public int run(long rain, long warmth) {
        double r = d(rain), c = d(warmth);
        if (!in(r, 0.0, 1000000.0) || !in(c, -100.0, 100.0)) return OUTSIDE;
        if (c > 0.0) {
            double m = Math.min(snow, 2.0 * c);
            snow -= m;
            ground = ground + r + m;
        } else {
            snow += r;
        }
        inflow = ground * 0.25;
        ground -= inflow;
        double voice = voice(), level = level(volume);
        unheard = Double.isNaN(voice) ? unheard + 1 : 0;
        double told = Double.isNaN(voice) ? level : voice;
        tolds.add(told);
        steer(told);
        out = 0.0;
        for (double o : openings) out += o * 400.0 * rooted(level);
        double x = level - 30.0;
        spill = x > 0.0 ? x * x * 150.0 : 0.0;
        double v = volume + inflow - out - spill;
        lack = v < 0.0 ? -v : 0.0;
        if (v > t(40)) spill += v - t(40);
        volume = v < 0.0 ? 0.0 : v > t(40) ? t(40) : v;
        return tolds.size();
    }

    private void steer(double told) {
        int rule = firstRule(tolds.size() % 366, told);
        double left = rule == NONE ? 0.0 : d(rules.get(rule)[5]), full = 400.0 * rooted(told);
        List<Integer> order = new ArrayList<>(List.of(0, 1, 2, 3));
        order.sort((g, h) -> moves[g] != moves[h] ? moves[g] - moves[h] : g - h);
        for (int g : order) {
            double o = openings[g];
            if (!sticks[g] && !Double.isNaN(hands[g])) {
                openings[g] = hands[g];
            } else if (!sticks[g]) {
                double target = unheard >= 3 ? 0.5 : full == 0.0 || left <= 0.0 ? 0.0 : left / full > 1.0 ? 1.0 : left / full;
                double turn = target - o;
                openings[g] = o + (turn > rate ? rate : turn < -rate ? -rate : turn);
            }
            left = left - openings[g] * full;
            if (b(o) != b(openings[g])) moves[g]++;
        }
    }

    public long lake(int what) {
        if (not(what, 14)) return OUTSIDE;
        double told = tolds.isEmpty() ? Double.NaN : tolds.get(tolds.size() - 1);
        double[] all = {volume, level(volume), told, ground, snow, inflow, out, spill, lack, rate, openings[0], openings[1], openings[2], openings[3]};
        return b(all[what]);
    }

    public int heard(int gauge) {
        if (not(gauge, 6)) return UNKNOWN;
        return tolds.isEmpty() ? NONE : fates[gauge];
    }

    public int moved(int gate, int what) {
        if (not(gate, 4)) return UNKNOWN;
        if (not(what, 3)) return OUTSIDE;
        return what == 0 ? moves[gate] : what == 1 ? (sticks[gate] ? 1 : 0) : Double.isNaN(hands[gate]) ? 0 : 1;
    }

    public int about(int what) {
        int[] all = {tolds.size(), unheard, rows.size(), beds.size(), things.size(), racks.size(), cards.size(), signals.size(), rules.size(), rights.size(), bookings};
        return not(what, 11) ? OUTSIDE : all[what];
    }

    // rules, rights, floods

    private final List<long[]> rules = new ArrayList<>();
    private final List<long[]> rights = new ArrayList<>();

    public int rule(int rank, int from, int to, long low, long high, long out) {
        if (not(rank, 100) || from < 0 || from > to || to > 365) return OUTSIDE;
        if (Double.isNaN(d(low)) || Double.isNaN(d(high)) || !in(d(out), 0.0, 1000000.0)) return OUTSIDE;
        if (rules.size() == 12) return FULL;
        rules.add(new long[] {rank, from, to, low, high, out});
        return rules.size() - 1;
    }

    private int firstRule(int day, double level) {
        for (int rank = 0; rank < 100; rank++) {
            for (int i = 0; i < rules.size(); i++) {
                long[] r = rules.get(i);
                if (r[0] == rank && day >= r[1] && day <= r[2] && level >= d(r[3]) && level < d(r[4])) return i;
            }
        }
        return NONE;
    }

    public int ruleAt(int day, long level) {
        return not(day, 366) || Double.isNaN(d(level)) ? OUTSIDE : firstRule(day, d(level));
    }

    public int right(int rank, int share, long most) {
        if (not(rank, 100) || not(share, 1001) || most < 0 || most > 1000000000000L) return OUTSIDE;
        if (rights.size() == 12) return FULL;
        rights.add(new long[] {rank, share, most, 0});
        return rights.size() - 1;
    }

    public long part(long n) {
        if (n < 0 || n > BIG) return OUTSIDE;
        long left = n;
        for (int rank = 0; rank < 100; rank++) {
            List<long[]> of = new ArrayList<>();
            for (long[] r : rights) if (r[0] == rank) of.add(r);
            long want = 0, sum = 0, ahead = left;
            for (long[] r : of) {
                want += r[2] - r[3];
                sum += r[1];
            }
            boolean enough = want <= left;
            for (long[] r : of) {
                long gets = enough ? r[2] - r[3] : sum == 0 ? 0 : Math.min(r[2] - r[3], ahead * r[1] / sum);
                r[3] += gets;
                left -= gets;
            }
            for (long[] r : of) {
                long gets = Math.min(left, r[2] - r[3]);
                r[3] += gets;
                left -= gets;
            }
        }
        return n - left;
    }

    public long has(int right) {
        return not(right, rights.size()) ? UNKNOWN : rights.get(right)[3];
    }

    public long close() {
        long had = 0;
        for (long[] r : rights) {
            had += r[3];
            r[3] = 0;
        }
        return had;
    }

    private int hours = 12;
    private final double[][] inflows = new double[6][12];
    private final double[] releases = new double[8];

    public int hours(int n) {
        if (n < 1 || n > 12) return OUTSIDE;
        int were = hours;
        hours = n;
        return were;
    }

    public int ahead(int run, int hour, long bits) {
        if (not(run, 6)) return UNKNOWN;
        if (not(hour, 12) || !Double.isNaN(d(bits)) && !in(d(bits), 0.0, 1000000.0)) return OUTSIDE;
        inflows[run][hour] = d(bits);
        return 1;
    }

    public int release(int k, long bits) {
        if (not(k, 8)) return UNKNOWN;
        if (!Double.isNaN(d(bits)) && !in(d(bits), 0.0, 1000000.0)) return OUTSIDE;
        releases[k] = d(bits);
        return 1;
    }

    private boolean lacking(int run) {
        for (int h = 0; h < hours; h++) if (Double.isNaN(inflows[run][h])) return true;
        return false;
    }

    private double[] route(int run, int k) {
        double[] all = new double[hours];
        double v = volume;
        for (int h = 0; h < hours; h++) all[h] = v = Math.max(0.0, v + inflows[run][h] - releases[k]);
        return all;
    }

    public long routed(int run, int k, int hour) {
        if (not(run, 6) || not(k, 8) || Double.isNaN(releases[k])) return UNKNOWN;
        if (not(hour, hours)) return OUTSIDE;
        return b(lacking(run) ? Double.NaN : route(run, k)[hour]);
    }

    private double regretted(int k) {
        double most = 0.0;
        for (int run = 0; run < 6; run++) {
            if (lacking(run)) continue;
            double peak = 0.0;
            for (double v : route(run, k)) peak = Math.max(peak, v - t(30));
            most = Math.max(most, peak * peak + releases[k] * 10.0);
        }
        return most;
    }

    public long regret(int k) {
        return not(k, 8) || Double.isNaN(releases[k]) ? UNKNOWN : b(regretted(k));
    }

    public int chosen() {
        List<Integer> there = new ArrayList<>();
        for (int k = 0; k < 8; k++) if (!Double.isNaN(releases[k])) there.add(k);
        there.sort((x, y) -> {
            double p = regretted(x), q = regretted(y);
            if (p != q) return p < q ? -1 : 1;
            if (releases[x] != releases[y]) return releases[x] < releases[y] ? -1 : 1;
            return x - y;
        });
        return there.isEmpty() ? NONE : there.get(0);
    }

    public int peak(int run) {
        if (not(run, 6)) return UNKNOWN;
        if (lacking(run)) return NONE;
        double most = -1.0;
        for (int h = 0; h < hours; h++) most = inflows[run][h] > most ? inflows[run][h] : most;
        int hour = 0;
        while (inflows[run][hour] != most) hour++;
        return hour;
    }

    public int chance(long mark, int part) {
        if (not(part, 2) || Double.isNaN(d(mark))) return OUTSIDE;
        int above = 0, all = 0;
        for (int run = 0; run < 6; run++) {
            if (lacking(run)) continue;
            all++;
            boolean any = false;
            for (int h = 0; h < hours; h++) any |= inflows[run][h] > d(mark);
            above += any ? 1 : 0;
        }
        return part == 0 ? above : all;
    }

    // the book

    private final int[][] pages = new int[32][32];
    private int bookings;

    static int summed(int[] page) {
        int s = 0;
        for (int i = 0; i < 28; i++) s = Integer.rotateLeft(s ^ page[i], 7) * 0xC2B2AE3D;
        return s;
    }

    public int book(int row) {
        if (bad(row, rows.size())) return UNKNOWN;
        Object of = at(rows, row);
        if (of != null && length(of) > 24) return OUTSIDE;
        if (of != null && bookings == 60000) return FULL;
        return (int) tried(() -> {
            int[] page = new int[32];
            page[2] = length(of);
            for (int i = 0; i < length(of); i++) page[3 + i] = (int) (whole(of, i) & 255);
            pages[bookings % 32] = page;
            bookings++;
            page[0] = bookings / 256;
            page[1] = bookings % 256;
            int s = summed(page);
            for (int i = 0; i < 4; i++) page[31 - i] = s >>> 8 * i & 255;
            return bookings;
        });
    }

    public int pageByte(int page, int i) {
        return (int) tried(() -> pages[page][i]);
    }

    public int damage(int page, int i, int mask) {
        if (mask < 1 || mask > 255) return OUTSIDE;
        return (int) tried(() -> {
            pages[page][i] ^= mask;
            return 1;
        });
    }

    public int tear(int page, int i) {
        if (not(page, 32)) return UNKNOWN;
        if (not(i, 33)) return OUTSIDE;
        Arrays.fill(pages[page], i, 32, 0);
        return 1;
    }

    public int twin(int from, int to) {
        if (not(from, 32) || not(to, 32)) return UNKNOWN;
        pages[to] = pages[from].clone();
        return 1;
    }

    static int number(int[] page) {
        return page[0] * 256 + page[1];
    }

    static boolean isWhole(int[] p) {
        return number(p) != 0 && p[2] <= 24 && summed(p) == (p[28] << 24 | p[29] << 16 | p[30] << 8 | p[31]);
    }

    private List<List<Integer>> sorted() {
        List<List<Integer>> all = List.of(new ArrayList<>(), new ArrayList<>(), new ArrayList<>(), new ArrayList<>());
        for (int p = 0; p < 32; p++) {
            if (!isWhole(pages[p])) {
                if (!Arrays.equals(pages[p], new int[32])) all.get(0).add(p);
                continue;
            }
            int first = 0;
            while (!isWhole(pages[first]) || number(pages[first]) != number(pages[p])) first++;
            all.get(first == p ? 3 : Arrays.equals(pages[first], pages[p]) ? 2 : 1).add(p);
        }
        all.get(3).sort((p, q) -> number(pages[p]) - number(pages[q]));
        return all;
    }

    public int open() {
        return sorted().get(3).size();
    }

    public int opened(int i, int what) {
        List<Integer> whole = sorted().get(3);
        if (not(i, whole.size())) return UNKNOWN;
        int[] page = pages[whole.get(i)];
        if (what == 0) return number(page);
        if (what == 1) return page[2];
        if (what == 2) return whole.get(i);
        return what < 10 || what >= 10 + page[2] ? OUTSIDE : page[what - 7];
    }

    public int lost(int what, int k) {
        return not(what, 3) ? OUTSIDE : kth(sorted().get(what), k);
    }
}
