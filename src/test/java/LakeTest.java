import java.lang.reflect.Field;

/** Promises 50 to 61: the lake. */
public final class LakeTest {
    private static final double NAN = Double.NaN;
    private static final int HEARD = 0, SILENT = 1, HANGS = 2, JUMPS = 3;

    public static void main(String[] args) throws ReflectiveOperationException {
        table();
        turned();
        reading();
        word();
        stuck();
        hand();
        rate();
        runWeather();
        runVoice();
        runSteers();
        runOrders();
        runUnheard();
        runRoots();
        runSpills();
        runLacks();
        runsPastCounting();
        lake();
        heardHangs();
        heardJumps();
        moved();
        about();
        Due.end("LakeTest");
    }

    private static int run(ReservoirWall x, double rain, double warmth) {
        return x.run(Due.bits(rain), Due.bits(warmth));
    }

    private static void real(ReservoirWall x, int what, double want) {
        Due.due("lake(" + what + ")", x.lake(what), Due.bits(want));
    }

    private static double t(int k) {
        return 1000.0 * k * k + 2000.0 * k;
    }

    /** 99000.0 is T(9): 100000.0 lies a little above 9 metres. */
    private static final double FIRST_LEVEL = 9 + (100000.0 - 99000.0) / (120000.0 - 99000.0);

    private static void wish(ReservoirWall x, double out) {
        Due.due("rule", x.rule(50, 0, 365, Due.bits(-2000.0), Due.bits(2000.0), Due.bits(out)), 0);
    }

    private static void table() {
        ReservoirWall x = Due.promise(50);
        for (int k = 0; k <= 40; k++) Due.due("table(" + k + ")", x.table(k), 1000L * k * k + 2000L * k);
        Due.raised(x, 0, 0);
        Due.all("no line", Due.INDEX, x.table(-1), x.table(41), x.table(Due.LEAST), x.table(Due.MOST));
        Due.raised(x, 2, 0);
    }

    private static void turned() {
        ReservoirWall x = Due.promise(51);
        for (int k = 0; k <= 40; k++) Due.due("turned T(" + k + ")", x.turned(Due.bits(t(k))), Due.bits(k));
        for (int k = 0; k < 40; k++) {
            double v = t(k) + 777.7;
            Due.due("turned " + v, x.turned(Due.bits(v)), Due.bits(k + (v - t(k)) / (t(k + 1) - t(k))));
            double under = Math.nextDown(t(k + 1));
            Due.due("turned " + under, x.turned(Due.bits(under)), Due.bits(k + (under - t(k)) / (t(k + 1) - t(k))));
        }
        Due.due("-0.0", x.turned(Due.bits(-0.0)), Due.bits(0.0));
        Due.all("no volume", Due.OUTSIDE, x.turned(Due.bits(-0.1)), x.turned(Due.bits(Math.nextUp(1680000.0))), x.turned(Due.NO_NUMBER), x.turned(-1L), x.turned(Due.bits(Double.POSITIVE_INFINITY)), x.turned(Due.bits(-Double.MIN_VALUE)));
    }

    private static void reading() {
        ReservoirWall x = Due.promise(52);
        Due.all("reading", 1, x.reading(0, Due.bits(-1000.0)), x.reading(5, Due.bits(1000.0)), x.reading(1, Due.NO_NUMBER), x.reading(2, 0xFFF0000000000001L));
        Due.all("no gauge", Due.UNKNOWN, x.reading(-1, 0), x.reading(6, Due.bits(1001.0)));
        Due.all("no reading", Due.OUTSIDE, x.reading(0, Due.bits(1000.1)), x.reading(0, Due.bits(-1000.1)), x.reading(0, Due.bits(Double.NEGATIVE_INFINITY)));
        x.reading(3, Due.bits(7.0));
        x.reading(3, Due.bits(8.0));
        x.reading(4, Due.bits(9.0));
        x.reading(4, Due.NO_NUMBER);
        run(x, 0.0, 0.0);
        int[] fates = {HEARD, SILENT, SILENT, HEARD, SILENT, HEARD};
        for (int g = 0; g < 6; g++) Due.due("heard(" + g + ")", x.heard(g), fates[g]);
        real(x, 2, 8.0);
        run(x, 0.0, 0.0);
        for (int g = 0; g < 6; g++) Due.due("a READING is for one STEP", x.heard(g), SILENT);
    }

    private static void word() {
        ReservoirWall x = Due.promise(53);
        Due.all("word", 1, x.word(Due.bits(0.0)), x.word(Due.bits(100.0)), x.word(Due.NO_NUMBER), x.word(Due.bits(33.0)));
        Due.all("no word", Due.OUTSIDE, x.word(Due.bits(-0.1)), x.word(Due.bits(100.1)), x.word(Due.bits(Double.POSITIVE_INFINITY)));
        x.reading(0, Due.bits(9.0));
        run(x, 0.0, 0.0);
        real(x, 2, 33.0);
        Due.due("it is heard", x.about(1), 0);
        Due.due("so was the gauge", x.heard(0), HEARD);
        x.reading(0, Due.bits(33.25));
        run(x, 0.0, 0.0);
        real(x, 2, 33.25);
        run(x, 0.0, 0.0);
        Due.due("a WORD is for one STEP", x.about(1), 1);
        x.word(Due.bits(3.0));
        x.word(Due.NO_NUMBER);
        run(x, 0.0, 0.0);
        Due.due("it was taken back", x.about(1), 2);
        x.word(Due.bits(-0.0));
        run(x, 0.0, 0.0);
        real(x, 2, -0.0);
    }

    private static void stuck() {
        ReservoirWall x = Due.promise(54);
        Due.due("stuck(2, true)", x.stuck(2, true), 0);
        Due.due("again", x.stuck(2, true), 1);
        wish(x, 1000000.0);
        run(x, 0.0, 0.0);
        real(x, 12, 0.0);
        real(x, 11, 0.125);
        Due.due("stuck(2, false)", x.stuck(2, false), 1);
        run(x, 0.0, 0.0);
        real(x, 12, 0.125);
        Due.due("once more", x.stuck(2, false), 0);
        Due.all("no gate", Due.UNKNOWN, x.stuck(-1, true), x.stuck(4, false));
    }

    private static void hand() {
        ReservoirWall x = Due.promise(55);
        Due.all("hand", 1, x.hand(0, Due.bits(0.75)), x.hand(1, Due.bits(1.0)), x.hand(2, Due.bits(0.0)), x.hand(3, Due.bits(0.5)), x.hand(3, Due.NO_NUMBER));
        Due.all("no opening", Due.OUTSIDE, x.hand(0, Due.bits(1.1)), x.hand(0, Due.bits(-0.1)), x.hand(0, Due.bits(Double.POSITIVE_INFINITY)));
        Due.all("no gate", Due.UNKNOWN, x.hand(-1, 0), x.hand(4, Due.bits(2.0)));
        real(x, 10, 0.0);
        run(x, 0.0, 0.0);
        real(x, 10, 0.75);
        real(x, 11, 1.0);
        real(x, 12, 0.0);
        real(x, 13, 0.0);
        run(x, 0.0, 0.0);
        real(x, 10, 0.75);
        Due.due("given back", x.hand(0, Due.NO_NUMBER), 1);
        run(x, 0.0, 0.0);
        real(x, 10, 0.625);
        x.stuck(1, true);
        x.hand(1, Due.bits(0.25));
        run(x, 0.0, 0.0);
        real(x, 11, 1.0);
    }

    private static void rate() {
        ReservoirWall x = Due.promise(56);
        Due.all("rate", 1, x.rate(Due.bits(0.0)), x.rate(Due.bits(1.0)), x.rate(Due.bits(0.25)));
        Due.all("no rate", Due.OUTSIDE, x.rate(Due.bits(1.1)), x.rate(Due.bits(-0.1)), x.rate(Due.NO_NUMBER), x.rate(Due.bits(Double.NEGATIVE_INFINITY)));
        real(x, 9, 0.25);
        wish(x, 1000000.0);
        run(x, 0.0, 0.0);
        for (int g = 10; g < 14; g++) real(x, g, 0.25);
        x.rate(Due.bits(0.0));
        run(x, 0.0, 0.0);
        real(x, 10, 0.25);
    }

    private static void runWeather() {
        ReservoirWall x = Due.promise(57);
        Due.all("rain", Due.OUTSIDE, x.run(Due.bits(-0.1), 0), x.run(Due.bits(1000000.1), 0), x.run(Due.NO_NUMBER, 0));
        Due.all("warmth", Due.OUTSIDE, x.run(0, Due.bits(100.1)), x.run(0, Due.bits(-100.1)), x.run(0, Due.NO_NUMBER));
        Due.due("no STEP was done", x.about(0), 0);
        Due.due("cold", run(x, 10.0, 0.0), 1);
        real(x, 4, 10.0);
        real(x, 3, 0.0);
        Due.due("thaw", run(x, 4.0, 1.5), 2);
        real(x, 4, 7.0);
        real(x, 5, 1.75);
        real(x, 3, 5.25);
        real(x, 0, 100001.75);
        Due.due("heat", run(x, 0.0, 100.0), 3);
        real(x, 4, 0.0);
        real(x, 5, (5.25 + 0.0 + 7.0) * 0.25);
        Due.due("the bounds", x.run(Due.bits(1000000.0), Due.bits(-100.0)), 4);
        real(x, 4, 1000000.0);
        ReservoirWall y = Due.promise(57);
        run(y, 2.0625, -1.0);
        run(y, 0.0, 1.0);
        real(y, 4, 0.0625);
        run(y, 0.0, 0.03125);
        real(y, 4, 0.0);
        run(y, 0.0, Double.MIN_VALUE);
        real(y, 4, 0.0);
    }

    private static void told(ReservoirWall x, double want, double... readings) {
        for (int g = 0; g < readings.length; g++) x.reading(g, Due.bits(readings[g]));
        run(x, 0.0, 0.0);
        Due.due("LEVEL TOLD of " + java.util.Arrays.toString(readings), x.lake(2), Due.bits(want));
    }

    private static void runVoice() {
        told(Due.promise(57), 3.0, 5.0, 1.0, 3.0);
        told(Due.promise(57), 3.0, 5.0, 1.0, 3.0, 4.0);
        told(Due.promise(57), 2.5, 2.5);
        told(Due.promise(57), -7.0, 2.5, -7.0);
        told(Due.promise(57), 4.0, 6.0, 5.0, 4.0, 3.0, 2.0, NAN);
        told(Due.promise(57), FIRST_LEVEL, NAN);
        told(Due.promise(57), 0.0, 0.0, -0.0);
        told(Due.promise(57), -0.0, -0.0, 0.0);
        told(Due.promise(57), 0.0, 1.0, 0.0, -0.0, -5.0, NAN);
        told(Due.promise(57), -0.0, 0.0, -0.0, 5.0);
    }

    private static void runSteers() {
        ReservoirWall x = Due.promise(57);
        wish(x, 600.0);
        x.rate(Due.bits(1.0));
        x.hand(1, Due.bits(0.25));
        x.word(Due.bits(4.0));
        run(x, 0.0, 0.0);
        real(x, 10, 600.0 / 800.0);
        real(x, 11, 0.25);
        real(x, 12, 0.0);
        real(x, 13, 0.0);
        double root = Math.sqrt(FIRST_LEVEL), out = 0.0 + 0.75 * 400.0 * root + 0.25 * 400.0 * root + 0.0 + 0.0;
        real(x, 6, out);
        real(x, 0, 100000.0 + 0.0 - out - 0.0);
        x.stuck(0, true);
        x.word(Due.bits(4.0));
        run(x, 0.0, 0.0);
        real(x, 10, 0.75);
        real(x, 12, 600.0 / 800.0);
        real(x, 13, 0.0);
        x.word(Due.bits(0.0));
        run(x, 0.0, 0.0);
        real(x, 12, 0.0);
        x.word(Due.bits(100.0));
        x.rate(Due.bits(0.125));
        run(x, 0.0, 0.0);
        real(x, 10, 0.75);
        real(x, 11, 0.25);
    }

    /** Gates that moved less come first, and what they let out is off what is left. */
    private static void runOrders() {
        ReservoirWall x = Due.promise(57);
        wish(x, 100.0);
        x.rate(Due.bits(1.0));
        x.word(Due.bits(4.0));
        run(x, 0.0, 0.0);
        real(x, 10, 100.0 / 800.0);
        real(x, 11, 0.0);
        x.word(Due.bits(4.0));
        run(x, 0.0, 0.0);
        real(x, 10, 0.0);
        real(x, 11, 0.125);
        real(x, 12, 0.0);
        int[] moves = {2, 1, 0, 0};
        for (int g = 0; g < 4; g++) Due.due("moved(" + g + ", 0)", x.moved(g, 0), moves[g]);
        x.word(Due.bits(4.0));
        run(x, 0.0, 0.0);
        real(x, 12, 0.125);
        real(x, 11, 0.0);
    }

    private static void runUnheard() {
        ReservoirWall x = Due.promise(57);
        x.rate(Due.bits(1.0));
        run(x, 0.0, 0.0);
        run(x, 0.0, 0.0);
        real(x, 10, 0.0);
        run(x, 0.0, 0.0);
        Due.due("UNHEARD", x.about(1), 3);
        for (int g = 10; g < 14; g++) real(x, g, 0.5);
        run(x, 0.0, 0.0);
        real(x, 10, 0.5);
        x.word(Due.bits(9.0));
        run(x, 0.0, 0.0);
        real(x, 10, 0.0);
    }

    /** An opening tells the root of LEVEL TOLD, however small that is. */
    private static void runRoots() {
        double[] levels = {Double.MIN_VALUE, 3e-320, 1e-300, 2e-20, 0.1, 0.5, 2.0, 3.0, 99.99999, 1000.0};
        for (double level : levels) {
            ReservoirWall x = Due.promise(57);
            double wish = 200.0 * Math.sqrt(level);
            wish(x, wish);
            x.rate(Due.bits(1.0));
            x.reading(0, Due.bits(level));
            run(x, 0.0, 0.0);
            real(x, 10, 0.0 + (wish / (400.0 * Math.sqrt(level)) - 0.0));
        }
    }

    private static void runSpills() {
        ReservoirWall x = Due.promise(57);
        for (int i = 0; i < 12; i++) x.word(Due.bits(0.0));
        run(x, 1000000.0, 1.0);
        x.word(0);
        run(x, 1000000.0, 1.0);
        double volume = 100000.0 + 250000.0 + 437500.0;
        real(x, 0, volume);
        real(x, 7, 0.0);
        x.word(0);
        run(x, 1000000.0, 1.0);
        volume = volume + 578125.0;
        real(x, 0, volume);
        real(x, 7, 0.0);
        double level = Double.longBitsToDouble(x.lake(1));
        x.word(0);
        run(x, 1000000.0, 1.0);
        double above = level - 30.0, spill = above * above * 150.0;
        double next = volume + 683593.75 - 0.0 - spill;
        real(x, 0, 1680000.0);
        real(x, 7, spill + (next - 1680000.0));
        real(x, 8, 0.0);
        real(x, 1, 40.0);
    }

    private static void runLacks() {
        ReservoirWall x = Due.promise(57);
        for (int g = 0; g < 4; g++) x.hand(g, Due.bits(1.0));
        double volume = 100000.0;
        for (int i = 0; i < 100 && volume > 0.0; i++) {
            run(x, 0.0, 0.0);
            int k = 0;
            while (t(k + 1) <= volume) k++;
            double root = Math.sqrt(k + (volume - t(k)) / (t(k + 1) - t(k)));
            double out = 0.0 + 400.0 * root + 400.0 * root + 400.0 * root + 400.0 * root;
            real(x, 6, out);
            double next = volume + 0.0 - out - 0.0;
            real(x, 8, next < 0.0 ? -next : 0.0);
            volume = next < 0.0 ? 0.0 : next;
            real(x, 0, volume);
        }
        Due.due("it ran dry", x.lake(0), 0);
        run(x, 0.0, 0.0);
        real(x, 8, 0.0);
        real(x, 6, 0.0);
        real(x, 1, 0.0);
    }

    /** "No call may ever throw by itself .. in any state" (LANGUAGE.md, rule 7), not even where STEPS are past all counting. */
    private static void runsPastCounting() throws ReflectiveOperationException {
        ReservoirWall x = Due.promise(57);
        Field water = ReservoirWall.class.getDeclaredField("water");
        water.setAccessible(true);
        Field steps = water.getType().getDeclaredField("steps");
        steps.setAccessible(true);
        steps.setInt(water.get(x), Due.MOST - 2);
        for (int i = 0; i < 6; i++) {
            x.reading(0, Due.bits(4.0));
            run(x, 1.0, 1.0);
            Due.due("the reading is heard", x.heard(0) == Due.NONE ? 0 : 1, 1);
        }
    }

    private static void lake() {
        ReservoirWall x = Due.promise(58);
        Due.all("what", Due.OUTSIDE, x.lake(-1), x.lake(14));
        real(x, 1, FIRST_LEVEL);
        real(x, 2, NAN);
        for (int what = 3; what <= 8; what++) real(x, what, 0.0);
        x.rate(Due.bits(-0.0));
        real(x, 9, -0.0);
        x.hand(3, Due.bits(-0.0));
        run(x, 8.0, 1.0);
        real(x, 13, -0.0);
        Due.due("other bits: it moved", x.moved(3, 0), 1);
        real(x, 2, FIRST_LEVEL);
        real(x, 3, 6.0);
        real(x, 5, 2.0);
        real(x, 0, 100002.0);
        real(x, 1, 9 + (100002.0 - 99000.0) / 21000.0);
    }

    private static void read(ReservoirWall x, double... readings) {
        for (int g = 0; g < readings.length; g++) x.reading(g, Due.bits(readings[g]));
        run(x, 0.0, 0.0);
    }

    private static void heardHangs() {
        ReservoirWall x = Due.promise(59);
        Due.all("no gauge", Due.UNKNOWN, x.heard(-1), x.heard(6));
        for (int g = 0; g < 6; g++) Due.due("ahead of the first STEP", x.heard(g), Due.NONE);
        read(x, 9.0, 9.1, 9.0);
        read(x, 9.0, 9.1, 9.0);
        read(x, 9.0, 9.1, 9.0);
        read(x, 9.0, 9.1, 9.0);
        Due.due("none stirs", x.heard(0), HEARD);
        read(x, 9.0, 9.2, NAN);
        Due.due("one stirs", x.heard(0), HANGS);
        Due.due("it is heard itself", x.heard(1), HEARD);
        Due.due("no READING", x.heard(2), SILENT);
        read(x, 9.0, NAN, 9.0);
        Due.due("it still stirs, though silent", x.heard(0), HANGS);
        Due.due("three are too few", x.heard(2), HEARD);
        read(x, 9.0);
        read(x, 9.0);
        Due.due("it stirred four STEPS ago", x.heard(0), HEARD);
        ReservoirWall y = Due.promise(59);
        for (int i = 0; i < 3; i++) read(y, 0.0, 0.1 * i);
        read(y, -0.0, 0.3);
        Due.due("other bits", y.heard(0), HEARD);
        for (int odd = 1; odd <= 8; odd++) {
            ReservoirWall w = Due.promise(59);
            for (int step = 1; step <= 12; step++) {
                read(w, step % 2 == 0 ? 9.0 : 9.125, step == odd ? 9.25 : 9.0);
                boolean still = step >= 4 && (step < odd || step >= odd + 4);
                Due.due("STEP " + step + ", another READING at " + odd, w.heard(1), still ? HANGS : HEARD);
                Due.due("the one that stirs", w.heard(0), HEARD);
            }
        }
        ReservoirWall z = Due.promise(59);
        for (int i = 0; i < 3; i++) read(z, 9.0, NAN);
        read(z, 9.0, 9.25);
        Due.due("one READING does not stir", z.heard(0), HEARD);
        read(z, 9.0, 9.5);
        Due.due("two do", z.heard(0), HANGS);
    }

    private static void heardJumps() {
        ReservoirWall x = Due.promise(59);
        read(x, 900.0);
        Due.due("no STEP before", x.heard(0), HEARD);
        read(x, 900.5, 899.5, 900.75, 899.25);
        Due.due("0.5 above is not FAR", x.heard(0), HEARD);
        Due.due("0.5 below is not FAR", x.heard(1), HEARD);
        Due.due("above", x.heard(2), JUMPS);
        Due.due("below", x.heard(3), JUMPS);
        real(x, 2, 899.5);
        read(x, 899.5, NAN, 100.0, 100.0);
        Due.due("FAR twice", x.heard(2), JUMPS);
        read(x, 899.5, NAN, 101.0, NAN);
        Due.due("FAR three times", x.heard(2), JUMPS);
        read(x, 899.5, NAN, 102.0, 100.0);
        Due.due("FAR at all three before", x.heard(2), HEARD);
        Due.due("silent between", x.heard(3), JUMPS);
        Due.due("three of the same bits", x.heard(0), HEARD);
        real(x, 2, 102.0);
        read(x, 899.5, NAN, 102.25, 102.5);
        Due.due("HANGS ahead of JUMPS", x.heard(0), HANGS);
        Due.due("not FAR any more", x.heard(2), HEARD);
        Due.due("nor is this", x.heard(3), HEARD);
        read(x, NAN, NAN, 200.0, 102.5);
        Due.due("FAR anew", x.heard(2), JUMPS);
        run(x, 0.0, 0.0);
        double level = Double.longBitsToDouble(x.lake(2));
        read(x, level + 0.25);
        Due.due("by LEVEL OF VOLUME, where none was heard", x.heard(0), HEARD);
    }

    private static void moved() {
        ReservoirWall x = Due.promise(60);
        Due.all("no gate", Due.UNKNOWN, x.moved(-1, 0), x.moved(4, 9));
        Due.all("what", Due.OUTSIDE, x.moved(0, -1), x.moved(0, 3));
        x.stuck(1, true);
        x.hand(2, Due.bits(0.5));
        Due.due("STUCK", x.moved(1, 1), 1);
        Due.due("not STUCK", x.moved(2, 1), 0);
        Due.due("HAND", x.moved(2, 2), 1);
        Due.due("no HAND", x.moved(1, 2), 0);
        run(x, 0.0, 0.0);
        run(x, 0.0, 0.0);
        Due.due("once", x.moved(2, 0), 1);
        Due.due("never", x.moved(1, 0), 0);
        x.hand(2, Due.NO_NUMBER);
        Due.due("HAND given back", x.moved(2, 2), 0);
        run(x, 0.0, 0.0);
        Due.due("0.5, as it is UNHEARD: it stays", x.moved(2, 0), 1);
        Due.due("others move", x.moved(0, 0), 1);
        Due.due("STUCK does not", x.moved(1, 0), 0);
    }

    private static void about() {
        ReservoirWall x = Due.promise(61);
        Due.all("what", Due.OUTSIDE, x.about(-1), x.about(11));
        run(x, 0.0, 0.0);
        run(x, 0.0, 0.0);
        x.row(1, 1);
        x.row(1, 1);
        x.row(1, 1);
        for (int i = 0; i < 4; i++) x.bed(1, 1, 1);
        for (int i = 0; i < 5; i++) x.thing(1, 1);
        for (int i = 0; i < 6; i++) x.rack(1, 1);
        for (int i = 0; i < 7; i++) x.card();
        for (int i = 0; i < 8; i++) x.step(0, 5, i, 0, 0, 0);
        x.act(0);
        for (int i = 0; i < 9; i++) x.rule(1, 0, 1, 0, 0, 0);
        for (int i = 0; i < 10; i++) x.right(1, 1, 1);
        for (int i = 0; i < 11; i++) x.book(0);
        int[] many = {2, 2, 3, 4, 5, 6, 7, 8, 9, 10, 11};
        for (int what = 0; what <= 10; what++) Due.due("about(" + what + ")", x.about(what), many[what]);
        x.word(0);
        run(x, 0.0, 0.0);
        Due.due("STEPS", x.about(0), 3);
        Due.due("heard again", x.about(1), 0);
    }
}
