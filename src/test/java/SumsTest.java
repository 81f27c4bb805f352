/** Promises 40 to 42: flows, sums. */
public final class SumsTest {
    private static final double NAN = Double.NaN, INF = Double.POSITIVE_INFINITY;

    public static void main(String[] args) {
        flow();
        flowRefused();
        test();
        quotient();
        Due.end("SumsTest");
    }

    private static ReservoirWall ofReals(int promise, int kind, double... cells) {
        ReservoirWall x = Due.promise(promise);
        x.row(kind, cells.length);
        for (int i = 0; i < cells.length; i++) x.putReal(0, i, Due.bits(cells[i]));
        return x;
    }

    private static void flows(double[] cells, double... want) {
        for (int kind = 2; kind <= 3; kind++) {
            ReservoirWall x = ofReals(40, kind, cells);
            for (int what = 0; what < 7; what++) Due.due("flow(0, " + what + ") of kind " + kind + " " + java.util.Arrays.toString(cells), x.flow(0, what), Due.bits(want[what]));
            Due.raised(x, 0, 0);
        }
    }

    private static void flow() {
        flows(new double[] {3.0, -1.5, 2.0, 8.5}, -1.5, 8.5, 3.0, 2.0, -1.5, 8.5, 3.0);
        flows(new double[] {3.0, NAN, -1.0, 10.0}, -1.0, 10.0, 4.0, 3.0, NAN, NAN, NAN);
        flows(new double[] {}, NAN, NAN, NAN, NAN, NAN, NAN, NAN);
        flows(new double[] {NAN, NAN}, NAN, NAN, NAN, NAN, NAN, NAN, NAN);
        flows(new double[] {0.0, -0.0}, 0.0, 0.0, 0.0, -0.0, 0.0, 0.0, 0.0);
        flows(new double[] {-0.0, 0.0, 0.0}, -0.0, -0.0, 0.0, 0.0, -0.0, -0.0, 0.0);
        flows(new double[] {-0.0}, -0.0, -0.0, 0.0, -0.0, -0.0, -0.0, 0.0);
        flows(new double[] {INF, 1.0}, 1.0, INF, INF, 1.0, 1.0, INF, INF);
        flows(new double[] {INF, 1.0, -INF, 5.0}, -INF, INF, NAN, 1.0, -INF, INF, NAN);
        flows(new double[] {-INF, NAN, -INF}, -INF, -INF, -INF, -INF, NAN, NAN, NAN);
        ReservoirWall x = ofReals(40, 3, Double.MAX_VALUE, Double.MAX_VALUE, -INF);
        Due.due("beyond all doubles, then back", x.flow(0, 2), Due.NO_NUMBER);
        x = ofReals(40, 3, 0.1, 0.2, 0.3);
        Due.due("from the left", x.flow(0, 2), Due.bits((0.0 + 0.1 + 0.2 + 0.3) / 3));
        x = ofReals(40, 2, 0.1, 0.2);
        Due.due("floats, added as doubles", x.flow(0, 6), Due.bits(((double) 0.1f + (double) 0.2f) / 2));
    }

    private static void flowRefused() {
        ReservoirWall x = ofReals(40, 3, 1.0);
        x.row(1, 1);
        Due.due("another kind", x.flow(1, 0), Due.STATE);
        Due.all("what", Due.OUTSIDE, x.flow(0, -1), x.flow(0, 7), x.flow(1, 7), x.flow(-1, 7));
        Due.all("no row", Due.UNKNOWN, x.flow(2, 9), x.flow(-2, 0));
        Due.raised(x, 0, 0);
        Due.due("NONE", x.flow(-1, 0), Due.NULL);
        Due.raised(x, 1, 0);
    }

    private static void test() {
        double[] cells = {1.0, 2.0, NAN, 0.0, -0.0, INF, -INF};
        for (int kind = 2; kind <= 3; kind++) {
            for (int i = 0; i < cells.length; i++) {
                ReservoirWall x = ofReals(41, kind, cells);
                for (int j = 0; j < cells.length; j++) {
                    double a = cells[i], b = cells[j];
                    boolean[] holds = {a < b, a <= b, a > b, a >= b, a == b, a != b};
                    for (int op = 0; op < 6; op++) {
                        Due.due("test " + a + " " + op + " " + b, x.test(0, i, j, op, false), holds[op] ? 1 : 0);
                        Due.due("test, denied " + a + " " + op + " " + b, x.test(0, i, j, op, true), holds[op] ? 0 : 1);
                    }
                }
            }
        }
        ReservoirWall x = ofReals(41, 2, 0.1, 0.1f);
        Due.due("in floats", x.test(0, 0, 1, 4, false), 1);
        x.row(7, 2);
        Due.due("another kind", x.test(1, 0, 9, 0, false), Due.STATE);
        Due.all("ops", Due.OUTSIDE, x.test(0, 0, 0, -1, false), x.test(0, 0, 0, 6, false), x.test(1, 0, 0, 6, true), x.test(-1, 0, 0, 6, true));
        Due.all("no row", Due.UNKNOWN, x.test(2, 0, 0, 0, false), x.test(-2, 0, 0, 6, false));
        Due.due("NONE", x.test(-1, 9, 0, 0, false), Due.NULL);
        Due.all("beyond", Due.INDEX, x.test(0, 2, 0, 0, false), x.test(0, 0, 2, 0, false), x.test(0, -1, 0, 0, true), x.test(0, 0, -1, 0, true));
        Due.raised(x, 2, 0);
    }

    private static void quotient() {
        ReservoirWall x = Due.promise(42);
        Due.due("cut", x.quotient(-7, 2, 0), -3);
        Due.due("left", x.quotient(-7, 2, 1), -1);
        Due.due("left by what is below 0", x.quotient(7, -2, 1), 1);
        Due.due("the least by -1", x.quotient(Long.MIN_VALUE, -1, 0), Long.MIN_VALUE);
        Due.due("0 is left", x.quotient(Long.MIN_VALUE, -1, 1), 0);
        Due.due("ints", x.quotient(0x5FFFFFFF9L, 0x700000002L, 2), -3);
        Due.due("ints, left", x.quotient(0x5FFFFFFF9L, 0x700000002L, 3), -1);
        Due.due("the least int by -1", x.quotient(0x80000000L, -1, 2), Integer.MIN_VALUE);
        Due.due("0 is left of ints", x.quotient(0x80000000L, -1, 3), 0);
        Due.due("the sum", x.quotient(5, -9, 4), -4);
        Due.due("the greatest sum", x.quotient(Long.MAX_VALUE, 1, 4), Long.MAX_VALUE);
        Due.due("the least sum", x.quotient(Long.MIN_VALUE, -1, 4), Long.MIN_VALUE);
        Due.due("the bounds together", x.quotient(Long.MIN_VALUE, Long.MAX_VALUE, 4), -1);
        Due.due("the difference", x.quotient(5, -9, 5), 14);
        Due.all("no difference", 0, x.quotient(3, 3, 5), x.quotient(0, 0, 5), x.quotient(Long.MIN_VALUE, Long.MIN_VALUE, 5));
        Due.due("the greatest difference", x.quotient(0, Long.MIN_VALUE, 5), Long.MAX_VALUE);
        Due.due("the least difference", x.quotient(-2, Long.MAX_VALUE, 5), Long.MIN_VALUE);
        Due.due("no bound", x.quotient(-1, Long.MAX_VALUE, 5), Long.MIN_VALUE);
        Due.all("what", Due.OUTSIDE, x.quotient(1, 0, -1), x.quotient(1, 0, 6));
        Due.raised(x, 0, 0);
        Due.all("by 0", Due.ARITHMETIC, x.quotient(1, 0, 0), x.quotient(1, 0, 1), x.quotient(1, 0x100000000L, 2), x.quotient(0, 0, 3));
        Due.raised(x, 6, 0);
        Due.due("0x100000000 is not 0 among longs", x.quotient(0x100000000L, 0x100000000L, 0), 1);
        x.quotient(1, 0, 0);
        Due.due("by 0 no sum fails", x.quotient(1, 0, 4), 1);
        Due.raised(x, 0, 0);
    }
}
