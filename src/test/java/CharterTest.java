/** Promises 62 to 67: rules and rights. */
public final class CharterTest {
    private static final double INF = Double.POSITIVE_INFINITY;

    public static void main(String[] args) {
        rule();
        ruleAt();
        rulesSteer();
        right();
        part();
        partByRank();
        has();
        close();
        Due.end("CharterTest");
    }

    private static int rule(ReservoirWall x, int rank, int from, int to, double low, double high, double out) {
        return x.rule(rank, from, to, Due.bits(low), Due.bits(high), Due.bits(out));
    }

    private static void rule() {
        ReservoirWall x = Due.promise(62);
        double nan = Double.NaN;
        Due.all("ranks", Due.OUTSIDE, rule(x, -1, 0, 1, 0, 1, 1), rule(x, 100, 0, 1, 0, 1, 1));
        Due.all("days", Due.OUTSIDE, rule(x, 0, -1, 1, 0, 1, 1), rule(x, 0, 2, 1, 0, 1, 1), rule(x, 0, 0, 366, 0, 1, 1), rule(x, 0, 366, 366, 0, 1, 1));
        Due.all("NO NUMBER", Due.OUTSIDE, rule(x, 0, 0, 1, nan, 1, 1), rule(x, 0, 0, 1, 0, nan, 1), rule(x, 0, 0, 1, 0, 1, nan));
        Due.all("out", Due.OUTSIDE, rule(x, 0, 0, 1, 0, 1, -0.1), rule(x, 0, 0, 1, 0, 1, 1000000.1), rule(x, 0, 0, 1, 0, 1, INF));
        Due.due("the first", rule(x, 0, 0, 0, -INF, INF, 0.0), 0);
        Due.due("the second", rule(x, 99, 365, 365, 5.0, -5.0, 1000000.0), 1);
        for (int i = 2; i < 12; i++) Due.due("rule", rule(x, i, 0, 365, i, i + 1, i), i);
        Due.due("the 13th", rule(x, 0, 0, 1, 0, 1, 1), Due.FULL);
        Due.due("OUTSIDE ahead of FULL", rule(x, 100, 0, 1, 0, 1, 1), Due.OUTSIDE);
        Due.due("about(8)", x.about(8), 12);
    }

    private static void ruleAt() {
        ReservoirWall x = Due.promise(63);
        rule(x, 7, 10, 20, 5.0, 8.0, 1.0);
        rule(x, 3, 15, 25, 5.0, 8.0, 2.0);
        rule(x, 3, 15, 25, 4.0, 6.0, 3.0);
        rule(x, 0, 300, 365, -INF, INF, 4.0);
        Due.due("day 0", x.ruleAt(0, 0), Due.NONE);
        Due.due("day 10", x.ruleAt(10, Due.bits(5.0)), 0);
        Due.due("day 9", x.ruleAt(9, Due.bits(5.0)), Due.NONE);
        Due.due("day 15: the lesser rank", x.ruleAt(15, Due.bits(5.0)), 1);
        Due.due("of like ranks the first that holds", x.ruleAt(25, Due.bits(4.5)), 2);
        Due.due("day 26", x.ruleAt(26, Due.bits(5.0)), Due.NONE);
        Due.due("below high", x.ruleAt(20, Due.bits(Math.nextDown(8.0))), 1);
        Due.due("not high itself", x.ruleAt(20, Due.bits(8.0)), Due.NONE);
        Due.due("not below low", x.ruleAt(10, Due.bits(Math.nextDown(5.0))), Due.NONE);
        Due.due("endless", x.ruleAt(365, Due.bits(-INF)), 3);
        Due.due("the band's own end", x.ruleAt(365, Due.bits(INF)), Due.NONE);
        Due.all("days", Due.OUTSIDE, x.ruleAt(-1, 0), x.ruleAt(366, 0));
        Due.due("NO NUMBER", x.ruleAt(0, Due.NO_NUMBER), Due.OUTSIDE);
    }

    private static void rulesSteer() {
        ReservoirWall x = Due.promise(63);
        rule(x, 0, 2, 2, 0.0, 50.0, 400.0);
        rule(x, 0, 0, 0, 0.0, 50.0, 200.0);
        x.rate(Due.bits(1.0));
        for (int step = 1; step <= 3; step++) {
            x.word(Due.bits(4.0));
            x.run(0, 0);
            Due.due("STEP " + step + " is of day " + step, x.lake(10), Due.bits(step == 2 ? 0.5 : 0.0));
        }
        x.hand(0, 0);
        x.hand(1, 0);
        x.hand(2, 0);
        x.rate(Due.bits(0.25));
        for (int step = 4; step <= 368; step++) {
            if (step >= 366) x.word(Due.bits(4.0));
            x.run(0, 0);
            if (step == 365) Due.due("UNHEARD", x.lake(13), Due.bits(0.5));
            if (step == 366) Due.due("day 0", x.lake(13), Due.bits(0.25));
            if (step == 367) Due.due("day 1", x.lake(13), Due.bits(0.0));
            if (step == 368) Due.due("day 2", x.lake(13), Due.bits(0.25));
        }
    }

    private static void right() {
        ReservoirWall x = Due.promise(64);
        Due.all("no right", Due.OUTSIDE, x.right(-1, 0, 0), x.right(100, 0, 0), x.right(0, -1, 0), x.right(0, 1001, 0), x.right(0, 0, -1), x.right(0, 0, 1000000000001L));
        Due.due("right(0, 0, 0)", x.right(0, 0, 0), 0);
        Due.due("right(99, 1000, 10^12)", x.right(99, 1000, 1000000000000L), 1);
        for (int i = 2; i < 12; i++) Due.due("right", x.right(1, 1, 1), i);
        Due.due("the 13th", x.right(1, 1, 1), Due.FULL);
        Due.due("OUTSIDE ahead of FULL", x.right(100, 1, 1), Due.OUTSIDE);
        Due.due("about(9)", x.about(9), 12);
    }

    private static void haves(ReservoirWall x, long... want) {
        for (int i = 0; i < want.length; i++) Due.due("has(" + i + ")", x.has(i), want[i]);
    }

    private static void part() {
        ReservoirWall x = Due.promise(65);
        Due.due("no rights", x.part(100), 0);
        Due.all("no litres", Due.OUTSIDE, x.part(-1), x.part(1000000000000001L));
        x.right(5, 1, 100);
        x.right(5, 2, 100);
        x.right(5, 0, 100);
        Due.due("part(10)", x.part(10), 10);
        haves(x, 4, 6, 0);
        Due.due("part(0)", x.part(0), 0);
        Due.due("part(200)", x.part(200), 200);
        haves(x, 100, 100, 10);
        Due.due("more than is wanted", x.part(1000000000000000L), 90);
        haves(x, 100, 100, 100);
        Due.due("nothing is wanted", x.part(5), 0);
        ReservoirWall y = Due.promise(65);
        y.right(1, 0, 30);
        y.right(1, 0, 30);
        Due.due("SHARES of 0", y.part(40), 40);
        haves(y, 30, 10);
        ReservoirWall w = Due.promise(65);
        w.right(1, 0, 30);
        w.right(1, 1, 30);
        Due.due("SHARES of 0 and 1", w.part(40), 40);
        haves(w, 10, 30);
        ReservoirWall z = Due.promise(65);
        z.right(0, 1000, 1000000000000L);
        for (int i = 1; i < 12; i++) z.right(0, 999, 1000000000000L);
        Due.due("all that can be", z.part(11999999999999L), 11999999999999L);
        haves(z, 1000000000000L, 1000000000000L);
        Due.due("the last lacks one", z.has(11), 999999999999L);
    }

    private static void partByRank() {
        ReservoirWall x = Due.promise(65);
        x.right(9, 1, 10);
        x.right(2, 1, 10);
        x.right(2, 3, 10);
        x.right(0, 1, 7);
        Due.due("part(16)", x.part(16), 16);
        haves(x, 0, 3, 6, 7);
        Due.due("part(14)", x.part(14), 14);
        haves(x, 3, 10, 10, 7);
        Due.due("part(100)", x.part(100), 7);
        haves(x, 10, 10, 10, 7);
        ReservoirWall y = Due.promise(65);
        y.right(1, 9, 4);
        y.right(1, 1, 40);
        y.right(1, 0, 40);
        Due.due("not more than it wants", y.part(30), 30);
        haves(y, 4, 26, 0);
    }

    private static void has() {
        ReservoirWall x = Due.promise(66);
        Due.all("no right", Due.UNKNOWN, x.has(0), x.has(-1));
        x.right(1, 1, 5);
        Due.due("nothing at first", x.has(0), 0);
        x.part(3);
        Due.due("3", x.has(0), 3);
        Due.due("no other", x.has(1), Due.UNKNOWN);
    }

    private static void close() {
        ReservoirWall x = Due.promise(67);
        Due.due("nothing", x.close(), 0);
        x.right(1, 1, 5);
        x.right(2, 1, 5);
        x.part(8);
        Due.due("8", x.close(), 8);
        haves(x, 0, 0);
        Due.due("nothing more", x.close(), 0);
        Due.due("they want again", x.part(100), 10);
    }
}
