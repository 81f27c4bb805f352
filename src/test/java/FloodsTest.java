/** Promises 68 to 75: floods ahead. */
public final class FloodsTest {
    public static void main(String[] args) {
        hours();
        ahead();
        release();
        routed();
        regret();
        chosen();
        peak();
        chance();
        Due.end("FloodsTest");
    }

    private static void flood(ReservoirWall x, int run, double... inflows) {
        for (int hour = 0; hour < inflows.length; hour++) Due.due("ahead", x.ahead(run, hour, Due.bits(inflows[hour])), 1);
    }

    private static void hours() {
        ReservoirWall x = Due.promise(68);
        Due.due("12 at first", x.hours(1), 12);
        Due.due("then 1", x.hours(12), 1);
        Due.all("no hours", Due.OUTSIDE, x.hours(0), x.hours(13), x.hours(-1));
        Due.due("still 12", x.hours(3), 12);
        flood(x, 0, 1.0, 5.0, 2.0);
        Due.due("three are enough", x.peak(0), 1);
        x.hours(4);
        Due.due("four lack", x.peak(0), Due.NONE);
        x.hours(1);
        Due.due("one hour's", x.peak(0), 0);
    }

    private static void ahead() {
        ReservoirWall x = Due.promise(69);
        x.hours(1);
        Due.all("ahead", 1, x.ahead(0, 11, Due.bits(1000000.0)), x.ahead(5, 0, 0), x.ahead(4, 0, Due.NO_NUMBER));
        Due.all("no run", Due.UNKNOWN, x.ahead(-1, 0, 0), x.ahead(6, 99, 0));
        Due.all("no hour", Due.OUTSIDE, x.ahead(0, -1, 0), x.ahead(0, 12, 0));
        Due.all("no inflow", Due.OUTSIDE, x.ahead(5, 0, Due.bits(-0.1)), x.ahead(5, 0, Due.bits(1000000.1)), x.ahead(5, 0, Due.bits(Double.POSITIVE_INFINITY)));
        Due.due("run 5", x.peak(5), 0);
        x.ahead(5, 0, 0xFFF8000000000001L);
        Due.due("none any more", x.peak(5), Due.NONE);
    }

    private static void release() {
        ReservoirWall x = Due.promise(70);
        Due.all("release", 1, x.release(0, Due.bits(0.0)), x.release(7, Due.bits(1000000.0)), x.release(1, Due.NO_NUMBER));
        Due.all("no release", Due.UNKNOWN, x.release(-1, 0), x.release(8, Due.bits(-1.0)));
        Due.all("no outflow", Due.OUTSIDE, x.release(0, Due.bits(-0.1)), x.release(0, Due.bits(1000000.1)));
        Due.due("the lesser", x.chosen(), 0);
        x.release(0, Due.NO_NUMBER);
        Due.due("the other", x.chosen(), 7);
        x.release(7, Due.NO_NUMBER);
        Due.due("none", x.chosen(), Due.NONE);
    }

    private static void routed() {
        ReservoirWall x = Due.promise(71);
        x.hours(3);
        x.release(2, Due.bits(60000.25));
        Due.due("it lacks", x.routed(0, 2, 0), Due.NO_NUMBER);
        flood(x, 0, 10000.5, 0.0, 7.0);
        double first = 100000.0 + 10000.5 - 60000.25;
        Due.due("behind hour 0", x.routed(0, 2, 0), Due.bits(first));
        Due.due("not below 0", x.routed(0, 2, 1), Due.bits(0.0));
        Due.due("behind hour 2", x.routed(0, 2, 2), Due.bits(0.0));
        x.release(2, Due.bits(1.0));
        Due.due("behind hour 2", x.routed(0, 2, 2), Due.bits(100000.0 + 10000.5 - 1.0 + 0.0 - 1.0 + 7.0 - 1.0));
        Due.all("no run, no release", Due.UNKNOWN, x.routed(-1, 2, 0), x.routed(6, 2, 0), x.routed(0, 3, 0), x.routed(0, -1, 99), x.routed(0, 8, 0));
        Due.all("no hour", Due.OUTSIDE, x.routed(0, 2, 3), x.routed(0, 2, -1), x.routed(1, 2, 3));
        x.run(Due.bits(4000.0), Due.bits(1.0));
        Due.due("from the lake's VOLUME", x.routed(0, 2, 0), Due.bits(101000.0 + 10000.5 - 1.0));
    }

    private static void regret() {
        ReservoirWall x = Due.promise(72);
        x.hours(2);
        x.release(0, Due.bits(5.0));
        x.release(1, Due.bits(300000.0));
        Due.due("all lack", x.regret(0), Due.bits(0.0));
        flood(x, 3, 900000.0, 0.0);
        double peak = 100000.0 + 900000.0 - 5.0 - 960000.0;
        Due.due("regret(0)", x.regret(0), Due.bits(peak * peak + 5.0 * 10.0));
        Due.due("regret(1)", x.regret(1), Due.bits(0.0 * 0.0 + 300000.0 * 10.0));
        flood(x, 1, 900000.0, 100000.0);
        double higher = 100000.0 + 900000.0 - 5.0 + 100000.0 - 5.0 - 960000.0;
        Due.due("the greatest", x.regret(0), Due.bits(higher * higher + 5.0 * 10.0));
        flood(x, 5, 1.0);
        Due.due("what lacks does not count", x.regret(0), Due.bits(higher * higher + 5.0 * 10.0));
        Due.all("no release", Due.UNKNOWN, x.regret(2), x.regret(-1), x.regret(8));
    }

    private static void chosen() {
        ReservoirWall x = Due.promise(73);
        Due.due("none", x.chosen(), Due.NONE);
        x.hours(2);
        x.release(3, Due.bits(20.0));
        x.release(5, Due.bits(10.0));
        x.release(6, Due.bits(10.0));
        Due.due("of like ones the lesser x, then the lesser number", x.chosen(), 5);
        flood(x, 0, 900000.0, 0.0);
        Due.due("a flood", x.chosen(), 3);
        x.release(0, Due.bits(40000.0));
        Due.due("no peak at all", x.chosen(), 0);
        x.release(1, Due.bits(39999.9));
        x.release(2, Due.bits(39980.0));
        Due.due("the least regret lies between", x.chosen(), 1);
        x.release(1, Due.NO_NUMBER);
        x.release(2, Due.bits(39400.0));
        Due.due("peak 600: 360000 and 394000 are more than 400000", x.chosen(), 0);
        ReservoirWall y = Due.promise(73);
        y.release(2, Due.bits(0.0));
        y.release(4, Due.bits(-0.0));
        Due.due("0.0 and -0.0 are alike", y.chosen(), 2);
    }

    private static void peak() {
        ReservoirWall x = Due.promise(74);
        x.hours(4);
        flood(x, 2, 3.0, 9.0, 9.0);
        Due.due("it lacks", x.peak(2), Due.NONE);
        flood(x, 2, 3.0, 9.0, 9.0, 1.0);
        Due.due("the first of the greatest", x.peak(2), 1);
        flood(x, 2, 0.0, 0.0, 0.0, 0.0);
        Due.due("nothing but 0", x.peak(2), 0);
        flood(x, 2, -0.0, 0.0, 0.0, 0.5);
        Due.due("the last", x.peak(2), 3);
        Due.all("no run", Due.UNKNOWN, x.peak(-1), x.peak(6));
    }

    private static void chance() {
        ReservoirWall x = Due.promise(75);
        x.hours(2);
        flood(x, 0, 5.0, 1.0);
        flood(x, 1, 2.0, 7.0);
        flood(x, 2, 9.0);
        flood(x, 4, 3.0, 3.0);
        Due.due("of how many", x.chance(0, 1), 3);
        Due.due("above 3", x.chance(Due.bits(3.0), 0), 2);
        Due.due("above 2.9", x.chance(Due.bits(2.9), 0), 3);
        Due.due("above 7", x.chance(Due.bits(7.0), 0), 0);
        Due.due("above what is endless below", x.chance(Due.bits(Double.NEGATIVE_INFINITY), 0), 3);
        Due.all("parts", Due.OUTSIDE, x.chance(0, -1), x.chance(0, 2));
        Due.all("NO NUMBER", Due.OUTSIDE, x.chance(Due.NO_NUMBER, 0), x.chance(-1L, 1));
        x.hours(1);
        Due.due("of one hour", x.chance(Due.bits(4.0), 0), 2);
        Due.due("of four", x.chance(0, 1), 4);
    }
}
