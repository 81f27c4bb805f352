/** What the promise tests share: answers held against what is due, and reals told by their bits. */
final class Due {
    static final int NONE = -1, UNKNOWN = -2000000001, OUTSIDE = -2000000002, STATE = -2000000003, FULL = -2000000004;
    static final int NULL = -2000000011, INDEX = -2000000012, SIZE = -2000000013, CAST = -2000000014, STORE = -2000000015, ARITHMETIC = -2000000016, HELD = -2000000017, WORDED = -2000000018;
    static final long NO_NUMBER = 0x7FF8000000000000L;
    static final int LEAST = Integer.MIN_VALUE, MOST = Integer.MAX_VALUE;

    private static int wrong = 0;
    private static int looked = 0;
    private static String promise = "";

    private Due() {
    }

    static ReservoirWall promise(int number) {
        promise = "promise " + number;
        return new ReservoirWall();
    }

    static void due(String call, long got, long want) {
        looked++;
        if (got == want) return;
        wrong++;
        System.out.println(promise + ": " + call + " answered " + got + ", due is " + want);
    }

    static void all(String call, long want, long... got) {
        for (int i = 0; i < got.length; i++) due(call + " (the answer at " + i + ")", got[i], want);
    }

    static long bits(double d) {
        return Double.doubleToLongBits(d);
    }

    static void raised(ReservoirWall x, int failure, int word) {
        due("raised(0)", x.raised(0), failure);
        due("raised(1)", x.raised(1), word);
    }

    static void end(String name) {
        System.out.println(name + ": " + looked + " answers, " + wrong + " wrong");
        if (wrong != 0 || looked == 0) System.exit(1);
    }
}
