/** Promises 43 to 49: acts. */
public final class ActsTest {
    private static final int PUT = 0, TAKE = 1, FAIL = 2, HOLD = 3, TURN = 4, SIGNAL = 5, DO = 6, TRY = 7, ANSWER = 8, SUM = 9;

    public static void main(String[] args) {
        step();
        wipe();
        actPuts();
        actTakesAndSums();
        actFails();
        actHolds();
        actDoes();
        actTriesEach();
        actTries();
        actPutsBy();
        actCountsSteps();
        actCatchesTheEnd();
        raised();
        wordsOfHeld();
        stock();
        gate();
        signal();
        Due.end("ActsTest");
    }

    /** Steps of one plan, five numbers each: op, a, b, c, d. */
    private static void plan(ReservoirWall x, int plan, int... steps) {
        x.wipe(plan);
        for (int i = 0; i < steps.length; i += 5) Due.due("step " + i / 5, x.step(plan, steps[i], steps[i + 1], steps[i + 2], steps[i + 3], steps[i + 4]), i / 5 + 1);
    }

    private static void ended(ReservoirWall x, int answer, int steps, int putBy) {
        Due.due("raised(2)", x.raised(2), answer);
        Due.due("raised(3)", x.raised(3), steps);
        Due.due("raised(4)", x.raised(4), putBy);
    }

    private static void step() {
        ReservoirWall x = Due.promise(43);
        Due.all("no plan", Due.UNKNOWN, x.step(-1, 0, 0, 0, 0, 0), x.step(12, 99, 0, 0, 0, 0));
        Due.all("ops", Due.OUTSIDE, x.step(0, -1, 0, 0, 0, 0), x.step(0, 10, 0, 0, 0, 0));
        Due.all("TAKE", Due.OUTSIDE, x.step(0, TAKE, -1, 0, 0, 0), x.step(0, TAKE, 1000000001, 0, 0, 0));
        Due.all("FAIL", Due.OUTSIDE, x.step(0, FAIL, 0, 0, 0, 0), x.step(0, FAIL, 9, 0, 0, 0), x.step(0, FAIL, 1, -1, 0, 0), x.step(0, FAIL, 1, 100, 0, 0), x.step(0, FAIL, 8, 100, 0, 0));
        Due.all("HOLD, TURN", Due.OUTSIDE, x.step(0, HOLD, -1, 0, 0, 0), x.step(0, HOLD, 4, 0, 0, 0), x.step(0, TURN, -1, 0, 0, 0), x.step(0, TURN, 4, 0, 0, 0));
        Due.all("DO", Due.OUTSIDE, x.step(0, DO, -1, 0, 0, 0), x.step(0, DO, 12, 0, 0, 0));
        Due.all("TRY", Due.OUTSIDE, x.step(0, TRY, -1, 0, 0, 0), x.step(0, TRY, 12, 0, 0, 0), x.step(0, TRY, 0, -1, 0, 0), x.step(0, TRY, 0, 10, 0, 0),
            x.step(0, TRY, 0, 0, -2, 0), x.step(0, TRY, 0, 0, 12, 0), x.step(0, TRY, 0, 0, 0, -2), x.step(0, TRY, 0, 0, 0, 12));
        int far = Due.MOST, low = Due.LEAST;
        int[][] fine = {{PUT, far, low, far, low}, {TAKE, 0, far, low, far}, {TAKE, 1000000000, far, far, far}, {FAIL, 8, 99, far, far}, {FAIL, 1, 0, low, low}, {HOLD, 3, far, far, far}, {TURN, 0, low, far, far},
            {SIGNAL, low, far, far, far}, {DO, 11, far, far, far}, {TRY, 11, 9, 11, 11}, {ANSWER, far, far, far, far}, {SUM, low, 0, far, far}};
        for (int i = 0; i < 12; i++) Due.due("step " + i, x.step(11, fine[i][0], fine[i][1], fine[i][2], fine[i][3], fine[i][4]), i + 1);
        Due.due("the 13th", x.step(11, SIGNAL, 0, 0, 0, 0), Due.FULL);
        Due.due("OUTSIDE ahead of FULL", x.step(11, 10, 0, 0, 0, 0), Due.OUTSIDE);
        Due.due("another plan's first", x.step(0, SIGNAL, 0, 0, 0, 0), 1);
        Due.due("TRY without what follows", x.step(0, TRY, 0, 0, -1, -1), 2);
        Due.due("the last plan is one", x.wipe(11), 12);
        Due.due("it can be done", x.act(11), 0);
    }

    private static void wipe() {
        ReservoirWall x = Due.promise(44);
        plan(x, 3, SIGNAL, 1, 0, 0, 0, SIGNAL, 2, 0, 0, 0);
        plan(x, 4, SIGNAL, 9, 0, 0, 0);
        Due.due("wipe(3)", x.wipe(3), 2);
        Due.due("again", x.wipe(3), 0);
        Due.due("it does nothing", x.act(3), 0);
        ended(x, 0, 0, 0);
        Due.due("no signal", x.about(7), 0);
        Due.due("the other plan stands", x.wipe(4), 1);
        Due.all("no plan", Due.UNKNOWN, x.wipe(-1), x.wipe(12));
    }

    private static void actPuts() {
        ReservoirWall x = Due.promise(45);
        x.row(5, 2);
        x.row(3, 1);
        plan(x, 0, PUT, 0, 1, 300, 0, PUT, 1, 0, -7, 0);
        Due.due("act(0)", x.act(0), 0);
        Due.raised(x, 0, 0);
        ended(x, 0, 2, 0);
        Due.due("a byte", x.get(0, 1), 44);
        Due.due("a double", x.getReal(1, 0), Due.bits(-7.0));
        plan(x, 1, PUT, 0, 0, 1, 0, PUT, 0, 0, 2, 0, PUT, 0, 1, 3, 0, PUT, 0, 2, 4, 0);
        Due.due("a cell that is not there", x.act(1), Due.INDEX);
        Due.raised(x, 2, 0);
        Due.due("as before, cell 0", x.get(0, 0), 0);
        Due.due("as before, cell 1", x.get(0, 1), 44);
        for (int row : new int[] {2, 39, 40, -1, -2, Due.MOST, Due.LEAST}) {
            plan(x, 2, PUT, row, 0, 1, 0);
            Due.due("row " + row, x.act(2), Due.NULL);
        }
        plan(x, 3, PUT, 0, -1, 1, 0);
        Due.due("cell -1", x.act(3), Due.INDEX);
        x.bed(3, 1, -1);
        x.lay(0, 0, 1);
        plan(x, 4, PUT, 1, 0, 5, 0, FAIL, 4, 0, 0, 0);
        Due.due("CAST", x.act(4), Due.CAST);
        Due.due("a laid STRIP is as before, too", x.spot(0, 0, 0), -7);
        Due.all("no plan", Due.UNKNOWN, x.act(-1), x.act(12));
        Due.raised(x, 0, 0);
    }

    private static void actTakesAndSums() {
        ReservoirWall x = Due.promise(45);
        x.stock(100);
        plan(x, 0, TAKE, 60, 0, 0, 0, TAKE, 40, 0, 0, 0);
        Due.due("all of it", x.act(0), 0);
        Due.due("none is left", x.stock(100), 0);
        plan(x, 0, TAKE, 60, 0, 0, 0, TAKE, 41, 0, 0, 0);
        Due.due("one too many", x.act(0), Due.WORDED);
        Due.raised(x, 8, 1);
        Due.due("as before", x.stock(100), 100);
        plan(x, 0, SUM, 7, -2, 0, 0);
        Due.due("-3 comes into it", x.act(0), 0);
        Due.due("97", x.stock(3), 97);
        Due.due("to 0", x.act(0), 0);
        Due.due("0", x.stock(2), 0);
        Due.due("below 0", x.act(0), Due.WORDED);
        Due.raised(x, 8, 2);
        Due.due("as before", x.stock(0), 2);
        plan(x, 0, SUM, Integer.MIN_VALUE, -1, 0, 0);
        Due.due("as longs", x.act(0), 0);
        Due.due("2^31", x.stock(1000000000000000L - 3), 2147483648L);
        plan(x, 0, SUM, 10, 3, 0, 0);
        Due.due("to 10^15", x.act(0), 0);
        Due.due("beyond", x.act(0), Due.WORDED);
        Due.raised(x, 8, 2);
        Due.due("10^15", x.stock(5), 1000000000000000L);
        plan(x, 0, SUM, 10, 3, 0, 0, SUM, 1, 0, 0, 0);
        Due.due("by 0", x.act(0), Due.ARITHMETIC);
        Due.raised(x, 6, 0);
        Due.due("as before", x.stock(0), 5);
    }

    private static void actFails() {
        ReservoirWall x = Due.promise(45);
        for (int a = 1; a <= 8; a++) {
            plan(x, 0, SIGNAL, a, 0, 0, 0, FAIL, a, 50 + a, 0, 0, SIGNAL, -a, 0, 0, 0);
            Due.due("FAIL " + a, x.act(0), -2000000010 - a);
            Due.raised(x, a, a >= 7 ? 50 + a : 0);
            ended(x, 0, 2, 0);
        }
        Due.due("signals stay", x.about(7), 8);
        plan(x, 0, ANSWER, -5, 0, 0, 0, FAIL, 1, 0, 0, 0);
        Due.due("ANSWERED", x.act(0), 1);
        Due.raised(x, 0, 0);
        ended(x, -5, 1, 0);
        plan(x, 0, SIGNAL, 3, 0, 0, 0);
        x.act(0);
        ended(x, 0, 1, 0);
    }

    private static void actHolds() {
        ReservoirWall x = Due.promise(45);
        plan(x, 0, TURN, 1, 5, 0, 0);
        Due.due("not held", x.act(0), Due.HELD);
        Due.raised(x, 7, 0);
        plan(x, 0, HOLD, 1, 0, 0, 0, HOLD, 1, 0, 0, 0, TURN, 1, 30, 0, 0, DO, 1, 0, 0, 0, TURN, 1, 40, 0, 0);
        plan(x, 1, HOLD, 1, 0, 0, 0, TURN, 1, 1, 0, 0);
        Due.due("held", x.act(0), 0);
        Due.due("71 notches", x.gate(1, 1), 71);
        Due.due("let go", x.gate(1, 0), 0);
        plan(x, 2, HOLD, 1, 0, 0, 0, TURN, 1, Due.MOST, 0, 0);
        x.act(2);
        Due.due("100 at most", x.gate(1, 1), 100);
        plan(x, 2, HOLD, 1, 0, 0, 0, TURN, 1, Due.LEAST, 0, 0);
        x.act(2);
        Due.due("0 at least", x.gate(1, 1), 0);
        plan(x, 3, DO, 4, 0, 0, 0, TURN, 2, 1, 0, 0);
        plan(x, 4, HOLD, 2, 0, 0, 0, TURN, 2, 9, 0, 0);
        Due.due("a plan's hold ends with it", x.act(3), Due.HELD);
        Due.due("notches stay", x.gate(2, 1), 9);
        plan(x, 5, HOLD, 3, 0, 0, 0, HOLD, 0, 0, 0, 0, FAIL, 8, 1, 0, 0);
        x.act(5);
        plan(x, 6, HOLD, 3, 0, 0, 0, TRY, 5, 0, 7, -1, TURN, 0, 1, 0, 0);
        plan(x, 7, TURN, 3, 8, 0, 0);
        Due.due("left by a failure, too", x.act(6), Due.HELD);
        Due.due("the outer hold was there", x.gate(3, 1), 8);
        plan(x, 8, HOLD, 0, 0, 0, 0, ANSWER, 1, 0, 0, 0);
        Due.due("left by an answer", x.act(8), 1);
        for (int gate = 0; gate < 4; gate++) Due.due("no hold is left", x.gate(gate, 0), 0);
    }

    private static void actDoes() {
        ReservoirWall x = Due.promise(45);
        for (int plan = 0; plan < 7; plan++) plan(x, plan, DO, plan + 1, 0, 0, 0);
        plan(x, 7, SIGNAL, 7, 0, 0, 0);
        Due.due("8 deep", x.act(0), 0);
        ended(x, 0, 8, 0);
        plan(x, 8, DO, 0, 0, 0, 0);
        Due.due("9 deep", x.act(8), Due.WORDED);
        Due.raised(x, 8, 3);
        ended(x, 0, 8, 0);
        plan(x, 6, TRY, 7, 8, 9, -1);
        plan(x, 9, SIGNAL, 9, 0, 0, 0);
        Due.due("WORD 3 comes as out of it: 9 is as deep", x.act(8), Due.WORDED);
        ended(x, 0, 8, 0);
        plan(x, 6, TRY, 7, 8, -1, -1, SIGNAL, 6, 0, 0, 0);
        Due.due("it is caught", x.act(8), 0);
        ended(x, 0, 9, 0);
        Due.due("one signal, and one", x.about(7), 2);
        plan(x, 6, TRY, 11, 0, -1, 7);
        Due.due("what comes last is as deep", x.act(8), Due.WORDED);
        Due.raised(x, 8, 3);
        plan(x, 6, SIGNAL, 1, 0, 0, 0, ANSWER, 77, 0, 0, 0);
        plan(x, 5, DO, 6, 0, 0, 0, SIGNAL, 2, 0, 0, 0);
        Due.due("an answer ends all", x.act(0), 1);
        ended(x, 77, 8, 0);
        Due.due("signal(3)", x.signal(3), Due.NONE);
    }

    private static ReservoirWall withPlansToTry() {
        ReservoirWall x = Due.promise(45);
        x.row(1, 1);
        plan(x, 2, SIGNAL, 2, 0, 0, 0);
        plan(x, 3, SIGNAL, 3, 0, 0, 0);
        return x;
    }

    private static void actTriesEach() {
        for (int by = 0; by <= 9; by++) {
            ReservoirWall x = withPlansToTry();
            for (int failure = 1; failure <= 8; failure++) {
                plan(x, 0, TRY, 1, by, 2, 3);
                plan(x, 1, PUT, 0, 0, by * 10 + failure, 0, FAIL, failure, 4, 0, 0);
                boolean caught = by == 0 || by == failure || by == 9 && failure <= 7;
                Due.due("TRY " + by + " of " + failure, x.act(0), caught ? 0 : -2000000010 - failure);
                Due.raised(x, caught ? 0 : failure, !caught && failure >= 7 ? 4 : 0);
                ended(x, 0, caught ? 5 : 4, 0);
                if (caught) Due.due("what was put stays", x.get(0, 0), by * 10 + failure);
                x.put(0, 0, 0);
            }
        }
    }

    private static void actTries() {
        ReservoirWall x = withPlansToTry();
        plan(x, 0, TRY, 1, 0, 2, 3);
        plan(x, 1, ANSWER, 6, 0, 0, 0);
        Due.due("an answer is not caught", x.act(0), 1);
        ended(x, 6, 3, 0);
        plan(x, 1, SIGNAL, 0, 0, 0, 0);
        Due.due("nothing to catch", x.act(0), 0);
        ended(x, 0, 3, 0);
        plan(x, 0, TRY, 1, 0, 2, 3, SIGNAL, 5, 0, 0, 0);
        plan(x, 1, FAIL, 1, 0, 0, 0);
        plan(x, 2, FAIL, 2, 0, 0, 0);
        Due.due("what is done for it fails itself", x.act(0), Due.INDEX);
        ended(x, 0, 4, 0);
        plan(x, 2, ANSWER, 8, 0, 0, 0);
        Due.due("or answers", x.act(0), 1);
        ended(x, 8, 4, 0);
    }

    private static void actPutsBy() {
        ReservoirWall x = Due.promise(45);
        plan(x, 0, TRY, 1, 9, -1, 2);
        plan(x, 1, FAIL, 8, 7, 0, 0);
        plan(x, 2, FAIL, 8, 6, 0, 0);
        Due.due("a failure in a failure's place", x.act(0), Due.WORDED);
        Due.raised(x, 8, 6);
        ended(x, 0, 3, 1);
        plan(x, 2, ANSWER, 5, 0, 0, 0);
        Due.due("an answer in a failure's place", x.act(0), 1);
        Due.raised(x, 0, 0);
        ended(x, 5, 3, 1);
        plan(x, 1, ANSWER, 4, 0, 0, 0);
        plan(x, 2, FAIL, 3, 0, 0, 0);
        Due.due("a failure in an answer's place", x.act(0), Due.SIZE);
        ended(x, 0, 3, 1);
        plan(x, 2, SIGNAL, 1, 0, 0, 0);
        Due.due("the answer goes on", x.act(0), 1);
        ended(x, 4, 3, 0);
        plan(x, 1, FAIL, 8, 9, 0, 0);
        Due.due("the failure goes on, with its word", x.act(0), Due.WORDED);
        Due.raised(x, 8, 9);
        plan(x, 2, TRY, 3, 0, -1, -1);
        plan(x, 3, FAIL, 8, 1, 0, 0);
        Due.due("with its own word still", x.act(0), Due.WORDED);
        Due.raised(x, 8, 9);
        ended(x, 0, 4, 0);
        plan(x, 0, TRY, 1, 0, -1, 2);
        plan(x, 2, FAIL, 5, 0, 0, 0);
        Due.due("what was caught is not put by", x.act(0), Due.STORE);
        ended(x, 0, 3, 0);
        plan(x, 4, TRY, 0, 1, -1, 5);
        plan(x, 5, ANSWER, 2, 0, 0, 0);
        plan(x, 0, TRY, 1, 7, -1, 2);
        Due.due("two are put by", x.act(4), 1);
        ended(x, 2, 5, 2);
    }

    private static void actCountsSteps() {
        ReservoirWall x = Due.promise(45);
        for (int i = 0; i < 11; i++) x.step(1, SIGNAL, i, 0, 0, 0);
        plan(x, 0, DO, 1, 0, 0, 0, DO, 1, 0, 0, 0, DO, 1, 0, 0, 0, DO, 1, 0, 0, 0);
        Due.due("48 steps", x.act(0), 0);
        ended(x, 0, 48, 0);
        x.step(0, HOLD, 2, 0, 0, 0);
        Due.due("49 steps", x.act(0), Due.WORDED);
        Due.raised(x, 8, 3);
        ended(x, 0, 48, 0);
        Due.due("the 49th was not begun", x.gate(2, 0), 0);
        Due.due("signals beyond 60 are not kept", x.about(7), 60);
    }

    private static void actCatchesTheEnd() {
        ReservoirWall x = Due.promise(45);
        for (int i = 0; i < 12; i++) x.step(1, SIGNAL, i, 0, 0, 0);
        plan(x, 0, DO, 1, 0, 0, 0, DO, 1, 0, 0, 0, DO, 1, 0, 0, 0, TRY, 1, 8, 2, 2);
        Due.due("the 49th is caught, plans without steps are done", x.act(0), 0);
        ended(x, 0, 48, 0);
        plan(x, 2, SIGNAL, 1, 0, 0, 0);
        Due.due("but no step more", x.act(0), Due.WORDED);
        Due.raised(x, 8, 3);
        ended(x, 0, 48, 1);
    }

    private static void raised() {
        ReservoirWall x = Due.promise(46);
        Due.all("what", Due.OUTSIDE, x.raised(-1), x.raised(5));
        x.row(1, 1);
        x.get(0, 1);
        Due.raised(x, 2, 0);
        x.get(5, 0);
        x.like(0, 0);
        x.thing(0, 1);
        x.stock(4);
        x.turned(0);
        x.open();
        Due.raised(x, 2, 0);
        plan(x, 0, ANSWER, 12, 0, 0, 0);
        x.act(0);
        x.get(-1, 0);
        Due.raised(x, 1, 0);
        ended(x, 12, 1, 0);
        x.act(12);
        ended(x, 12, 1, 0);
        plan(x, 0, FAIL, 8, 33, 0, 0);
        x.act(0);
        Due.raised(x, 8, 33);
        x.table(41);
        Due.raised(x, 2, 0);
        x.act(0);
        x.table(40);
        Due.raised(x, 0, 0);
        x.act(0);
        x.pageByte(0, 0);
        Due.raised(x, 0, 0);
    }

    /** A FAIL of 7 has its STEP's WORD; a TURN without a hold, which is 7 as well, has none. */
    private static void wordsOfHeld() {
        ReservoirWall x = Due.promise(46);
        for (int b : new int[] {0, 1, 99}) {
            plan(x, 0, DO, 1, 0, 0, 0);
            plan(x, 1, FAIL, 7, b, 0, 0);
            Due.due("FAIL 7 with " + b, x.act(0), Due.HELD);
            Due.raised(x, 7, b);
            plan(x, 0, TURN, 0, 1, 0, 0);
            Due.due("a TURN without a hold", x.act(0), Due.HELD);
            Due.raised(x, 7, 0);
        }
        plan(x, 0, TRY, 1, 8, -1, 2);
        plan(x, 1, FAIL, 7, 41, 0, 0);
        plan(x, 2, SIGNAL, 1, 0, 0, 0);
        Due.due("not caught by 8", x.act(0), Due.HELD);
        Due.raised(x, 7, 41);
        plan(x, 2, FAIL, 7, 42, 0, 0);
        Due.due("one in another's place", x.act(0), Due.HELD);
        Due.raised(x, 7, 42);
        ended(x, 0, 3, 1);
        plan(x, 0, TRY, 1, 7, -1, -1);
        Due.due("caught by 7", x.act(0), 0);
        Due.raised(x, 0, 0);
    }

    private static void stock() {
        ReservoirWall x = Due.promise(47);
        Due.due("at first", x.stock(1000000000000000L), 0);
        Due.due("then", x.stock(7), 1000000000000000L);
        Due.all("no stock", Due.OUTSIDE, x.stock(-1), x.stock(1000000000000001L), x.stock(Long.MIN_VALUE), x.stock(Long.MAX_VALUE));
        Due.due("still", x.stock(0), 7);
    }

    private static void gate() {
        ReservoirWall x = Due.promise(48);
        plan(x, 0, HOLD, 3, 0, 0, 0, TURN, 3, 17, 0, 0);
        x.act(0);
        Due.due("depth", x.gate(3, 0), 0);
        Due.due("notches", x.gate(3, 1), 17);
        Due.due("another's", x.gate(0, 1), 0);
        Due.all("no gate", Due.UNKNOWN, x.gate(-1, 0), x.gate(4, 9));
        Due.all("what", Due.OUTSIDE, x.gate(0, -1), x.gate(0, 2));
    }

    private static void signal() {
        ReservoirWall x = Due.promise(49);
        plan(x, 0, SIGNAL, 5, 0, 0, 0, SIGNAL, -1, 0, 0, 0, SIGNAL, Due.LEAST, 0, 0, 0, FAIL, 1, 0, 0, 0);
        x.act(0);
        Due.due("signal(0)", x.signal(0), 5);
        Due.due("signal(1)", x.signal(1), -1);
        Due.due("signal(2)", x.signal(2), Due.LEAST);
        Due.all("none", Due.NONE, x.signal(3), x.signal(-1), x.signal(60), x.signal(Due.MOST), x.signal(Due.LEAST));
        for (int i = 0; i < 19; i++) x.act(0);
        Due.due("the 60th", x.signal(59), Due.LEAST);
        x.act(0);
        Due.due("no more", x.signal(60), Due.NONE);
        Due.due("about(7)", x.about(7), 60);
    }
}
