/** Promises 1 to 18: a new object, rows, beds. */
public final class RowsTest {
    public static void main(String[] args) {
        newObject();
        row();
        put();
        putReal();
        get();
        getReal();
        raise();
        join();
        shift();
        like();
        count();
        find();
        mean();
        bed();
        lay();
        spot();
        setSpot();
        bare();
        Due.end("RowsTest");
    }

    private static void newObject() {
        ReservoirWall x = Due.promise(1);
        for (int what = 0; what <= 10; what++) Due.due("about(" + what + ")", x.about(what), 0);
        for (int what = 0; what <= 4; what++) Due.due("raised(" + what + ")", x.raised(what), 0);
        Due.due("lake(0)", x.lake(0), Due.bits(100000.0));
        Due.due("lake(2)", x.lake(2), Due.NO_NUMBER);
        Due.due("lake(9)", x.lake(9), Due.bits(0.125));
        for (int what = 3; what <= 8; what++) Due.due("lake(" + what + ")", x.lake(what), 0);
        for (int what = 10; what <= 13; what++) Due.due("lake(" + what + ")", x.lake(what), 0);
        Due.due("stock(0)", x.stock(0), 0);
        Due.due("hours(12)", x.hours(12), 12);
        Due.due("chosen()", x.chosen(), Due.NONE);
        Due.due("open()", x.open(), 0);
        Due.due("used(0)", x.used(0), Due.NULL);
    }

    private static void row() {
        ReservoirWall x = Due.promise(2);
        Due.all("row of a kind that is none", Due.OUTSIDE, x.row(-1, 1), x.row(8, 1), x.row(Due.LEAST, 1), x.row(8, -1));
        Due.all("row of more than 64 cells", Due.OUTSIDE, x.row(0, 65), x.row(7, Due.MOST));
        Due.all("row of less than none", Due.SIZE, x.row(3, -1), x.row(3, Due.LEAST));
        Due.raised(x, 3, 0);
        Due.due("row(3, 65)", x.row(3, 65), Due.OUTSIDE);
        Due.raised(x, 3, 0);
        for (int i = 0; i < 40; i++) Due.due("row", x.row(i % 8, i % 2 == 0 ? 64 : 0), i);
        Due.raised(x, 0, 0);
        Due.due("the 41st", x.row(1, 1), Due.FULL);
        Due.due("the 41st, SIZE", x.row(1, -1), Due.FULL);
        Due.due("the 41st, OUTSIDE", x.row(1, 65), Due.OUTSIDE);
        Due.due("about(2)", x.about(2), 40);
        Due.due("count(0, 0)", x.count(0, 0), 64);
        Due.due("count(13, 1)", x.count(13, 1), 5);
    }

    private static ReservoirWall ofEveryKind(int promise, int n) {
        ReservoirWall x = Due.promise(promise);
        for (int kind = 0; kind < 8; kind++) x.row(kind, n);
        return x;
    }

    private static void put() {
        ReservoirWall x = ofEveryKind(3, 2);
        long v = 0x123456789ABCDEF0L;
        long[] told = {(short) v, (int) v, (long) (float) v, (long) (double) v, (char) v, (byte) v, 1, v};
        for (int kind = 0; kind < 8; kind++) {
            Due.due("put into " + kind, x.put(kind, 1, v), 1);
            Due.due("get of " + kind, x.get(kind, 1), told[kind]);
            Due.due("the cell beside it", x.get(kind, 0), 0);
        }
        x.put(6, 1, 256);
        Due.due("256 is a truth", x.get(6, 1), 1);
        x.put(6, 1, 0);
        Due.due("0 is none", x.get(6, 1), 0);
        x.put(2, 0, 16777217);
        Due.due("the nearest float", x.get(2, 0), 16777216);
        x.put(3, 0, 9007199254740993L);
        Due.due("the nearest double", x.get(3, 0), 9007199254740992L);
        x.put(2, 0, Long.MAX_VALUE);
        Due.due("the greatest long, a float", x.get(2, 0), Long.MAX_VALUE);
        Due.all("put into no row", Due.UNKNOWN, x.put(8, 0, 1), x.put(-2, 0, 1), x.put(Due.MOST, 0, 1));
        Due.raised(x, 0, 0);
        Due.due("put(NONE)", x.put(-1, 9, 1), Due.NULL);
        Due.raised(x, 1, 0);
        Due.all("put beyond", Due.INDEX, x.put(0, 2, 1), x.put(0, -1, 1), x.put(0, Due.LEAST, 1), x.put(0, Due.MOST, 1));
        Due.raised(x, 2, 0);
    }

    private static void putReal() {
        ReservoirWall x = ofEveryKind(4, 2);
        double[] reals = {-2.75, 70000.9, 3e9, -3e9, 1e19, -1e19, 1e300, Double.POSITIVE_INFINITY, Double.NEGATIVE_INFINITY, 0.4, -0.4, 4.9e-324, 0.0, -0.0, 16777217.0};
        for (double d : reals) {
            long[] told = {(short) (int) d, (int) d, (long) (float) d, (long) d, (char) (int) d, (byte) (int) d, d != 0.0 ? 1 : 0, (long) d};
            for (int kind = 0; kind < 8; kind++) {
                Due.due("putReal into " + kind, x.putReal(kind, 0, Due.bits(d)), 1);
                Due.due(d + " in " + kind, x.get(kind, 0), told[kind]);
            }
            Due.due(d + " as a float", x.getReal(2, 0), Due.bits((float) d));
            Due.due(d + " as a double", x.getReal(3, 0), Due.bits(d));
        }
        for (int kind = 0; kind < 8; kind++) {
            x.putReal(kind, 0, 0xFFF0000000000001L);
            Due.due("NO NUMBER in " + kind, x.get(kind, 0), kind == 6 ? 1 : 0);
        }
        Due.due("NO NUMBER, a float", x.getReal(2, 0), Due.NO_NUMBER);
        Due.due("NO NUMBER, a double", x.getReal(3, 0), Due.NO_NUMBER);
        Due.all("putReal into no row", Due.UNKNOWN, x.putReal(8, 0, 1), x.putReal(-2, 0, 1));
        Due.due("putReal(NONE)", x.putReal(-1, 0, 1), Due.NULL);
        Due.all("putReal beyond", Due.INDEX, x.putReal(0, 2, 1), x.putReal(0, -1, 1));
        Due.raised(x, 2, 0);
        x.putReal(0, 0, 0);
        Due.raised(x, 0, 0);
    }

    private static void get() {
        ReservoirWall x = ofEveryKind(5, 1);
        x.put(7, 0, -2000000012L);
        Due.due("a WHOLE that looks like a failure", x.get(7, 0), -2000000012L);
        Due.raised(x, 0, 0);
        x.put(4, 0, -1);
        Due.due("chars are from 0 on", x.get(4, 0), 65535);
        x.put(5, 0, 200);
        Due.due("bytes are not", x.get(5, 0), -56);
        Due.all("get of no row", Due.UNKNOWN, x.get(8, 0), x.get(-2, 0));
        Due.due("get(NONE)", x.get(-1, 0), Due.NULL);
        Due.raised(x, 1, 0);
        Due.all("get beyond", Due.INDEX, x.get(0, 1), x.get(0, -1));
    }

    private static void getReal() {
        ReservoirWall x = ofEveryKind(6, 1);
        x.put(7, 0, Long.MAX_VALUE);
        Due.due("the nearest double of a long", x.getReal(7, 0), Due.bits(9.223372036854775807e18));
        x.put(6, 0, 5);
        Due.due("a truth", x.getReal(6, 0), Due.bits(1.0));
        x.put(1, 0, -7);
        Due.due("an int", x.getReal(1, 0), Due.bits(-7.0));
        x.putReal(2, 0, Due.bits(0.1));
        Due.due("a float", x.getReal(2, 0), Due.bits(0.1f));
        x.putReal(3, 0, Long.MIN_VALUE);
        Due.due("-0.0", x.getReal(3, 0), Long.MIN_VALUE);
        x.putReal(3, 0, 1);
        Due.due("the least double", x.getReal(3, 0), 1);
        Due.all("getReal of no row", Due.UNKNOWN, x.getReal(8, 0), x.getReal(-2, 0));
        Due.due("getReal(NONE)", x.getReal(-1, 0), Due.NULL);
        Due.all("getReal beyond", Due.INDEX, x.getReal(0, 1), x.getReal(0, -1));
    }

    private static void raise() {
        ReservoirWall x = ofEveryKind(7, 1);
        for (int kind = 0; kind < 8; kind++) Due.due("raise behind " + kind, x.raise(kind, 0, 1, false), 1);
        for (int kind = 0; kind < 6; kind++) Due.due("raise before " + kind, x.raise(kind, 0, 3, true), 1);
        for (int kind = 0; kind < 6; kind++) Due.due("it rose all the same " + kind, x.get(kind, 0), 4);
        Due.due("a short goes round", x.raise(0, 0, 32764, false), -32768);
        Due.due("an int goes round", x.raise(1, 0, 2147483644L, false), -2147483648L);
        Due.due("a char goes round", x.raise(4, 0, -5, false), 65535);
        Due.due("a byte goes round", x.raise(5, 0, 124, false), -128);
        Due.due("a long goes round", x.raise(7, 0, Long.MAX_VALUE, false), Long.MIN_VALUE);
        x.put(1, 0, -1);
        Due.due("the sum is a long's", x.raise(1, 0, 4294967297L, false), 0);
        Due.due("a truth, even", x.raise(6, 0, 2, false), 1);
        Due.due("a truth, odd below 0", x.raise(6, 0, -1, false), 0);
        x.put(2, 0, 16777216);
        Due.due("in floats", x.raise(2, 0, 1, false), 16777216);
        x.putReal(3, 0, Due.bits(0.5));
        Due.due("in doubles", x.raise(3, 0, 2, false), 2);
        Due.due("exactly", x.getReal(3, 0), Due.bits(2.5));
        x.putReal(3, 0, Due.NO_NUMBER);
        Due.due("NO NUMBER stays", x.raise(3, 0, 2, true), 0);
        Due.due("it does", x.getReal(3, 0), Due.NO_NUMBER);
        x.putReal(2, 0, Due.bits(Double.NEGATIVE_INFINITY));
        Due.due("so does what is endless", x.raise(2, 0, Long.MAX_VALUE, false), Long.MIN_VALUE);
        Due.all("raise in no row", Due.UNKNOWN, x.raise(8, 0, 1, true), x.raise(-2, 0, 1, false));
        Due.due("raise(NONE)", x.raise(-1, 0, 1, true), Due.NULL);
        Due.all("raise beyond", Due.INDEX, x.raise(0, 1, 1, true), x.raise(0, -1, 1, true));
        Due.raised(x, 2, 0);
    }

    private static void join() {
        ReservoirWall x = Due.promise(8);
        x.row(1, 2);
        x.row(1, 3);
        x.row(3, 63);
        x.row(3, 1);
        x.row(3, 0);
        x.put(0, 0, 7);
        x.put(0, 1, 8);
        x.put(1, 2, 9);
        Due.due("join(0, 1)", x.join(0, 1), 5);
        Due.due("its cells", x.count(5, 0), 5);
        long[] cells = {7, 8, 0, 0, 9};
        for (int i = 0; i < 5; i++) Due.due("cell " + i, x.get(5, i), cells[i]);
        x.put(0, 0, 70);
        Due.due("it has cells of its own", x.get(5, 0), 7);
        Due.due("join(2, 3), 64 cells", x.join(2, 3), 6);
        Due.due("join(4, 4), none", x.join(4, 4), 7);
        Due.due("unlike kinds", x.join(0, 3), Due.STORE);
        Due.raised(x, 5, 0);
        Due.due("more than 64, unlike kinds", x.join(0, 2), Due.OUTSIDE);
        Due.due("more than 64", x.join(6, 3), Due.OUTSIDE);
        Due.all("join of no row", Due.UNKNOWN, x.join(8, 0), x.join(0, 8), x.join(-1, 8), x.join(-2, -1));
        Due.all("join of NONE", Due.NULL, x.join(-1, 0), x.join(2, -1), x.join(-1, -1));
        Due.raised(x, 1, 0);
        while (x.about(2) < 40) x.row(1, 1);
        Due.due("the 41st", x.join(0, 1), Due.FULL);
        Due.due("FULL ahead of STORE", x.join(0, 3), Due.FULL);
        Due.due("OUTSIDE ahead of FULL", x.join(6, 3), Due.OUTSIDE);
        Due.due("NULL ahead of both", x.join(6, -1), Due.NULL);
        Due.due("about(2)", x.about(2), 40);
    }

    private static void shift() {
        ReservoirWall x = Due.promise(9);
        x.row(1, 4);
        x.row(1, 3);
        x.row(7, 4);
        for (int i = 0; i < 4; i++) x.put(0, i, i + 1);
        Due.due("shift(0, 0, 0, 1, 3)", x.shift(0, 0, 0, 1, 3), 1);
        long[] up = {1, 1, 2, 3};
        for (int i = 0; i < 4; i++) Due.due("upwards, cell " + i, x.get(0, i), up[i]);
        Due.due("shift(0, 1, 0, 0, 3)", x.shift(0, 1, 0, 0, 3), 1);
        long[] back = {1, 2, 3, 3};
        for (int i = 0; i < 4; i++) Due.due("back, cell " + i, x.get(0, i), back[i]);
        Due.due("shift(0, 2, 1, 1, 2)", x.shift(0, 2, 1, 1, 2), 1);
        Due.due("the other's", x.get(1, 1), 3);
        Due.all("n 0 at the end", 1, x.shift(0, 4, 1, 3, 0), x.shift(0, 0, 0, 0, 0));
        Due.all("n 0 beyond the end", Due.INDEX, x.shift(0, 5, 1, 0, 0), x.shift(0, 0, 1, 4, 0), x.shift(0, -1, 1, 0, 0), x.shift(0, 0, 1, -1, 0));
        Due.all("beyond", Due.INDEX, x.shift(0, 0, 1, 0, 4), x.shift(0, 2, 1, 0, 3), x.shift(0, 0, 1, 0, -1), x.shift(0, Due.MOST, 1, 0, 1), x.shift(0, 1, 1, 1, Due.MOST), x.shift(0, 0, 0, 0, Due.LEAST));
        Due.raised(x, 2, 0);
        Due.due("STORE ahead of INDEX", x.shift(0, 9, 2, 0, 1), Due.STORE);
        Due.due("STORE of no cells", x.shift(0, 0, 2, 0, 0), Due.STORE);
        Due.all("shift of NONE", Due.NULL, x.shift(-1, 0, 0, 0, 1), x.shift(0, 9, -1, 0, 1));
        Due.all("shift of no row", Due.UNKNOWN, x.shift(3, 0, -1, 0, 1), x.shift(-1, 0, 3, 0, 1), x.shift(0, 0, -2, 0, 1));
        for (int i = 0; i < 4; i++) Due.due("nothing changed, cell " + i, x.get(0, i), back[i]);
    }

    private static void like() {
        ReservoirWall x = Due.promise(10);
        x.row(3, 2);
        x.row(3, 2);
        x.row(2, 2);
        x.row(3, 3);
        Due.all("alike", 1, x.like(0, 1), x.like(0, 0), x.like(-1, -1));
        Due.all("unlike kinds, lengths, NONE", 0, x.like(0, 2), x.like(0, 3), x.like(-1, 0), x.like(0, -1));
        x.putReal(0, 1, 0x7FF0000000000001L);
        Due.due("NO NUMBER and 0.0", x.like(0, 1), 0);
        x.putReal(1, 1, 0xFFFFFFFFFFFFFFFFL);
        Due.due("any NO NUMBER is like any", x.like(0, 1), 1);
        x.putReal(0, 0, Long.MIN_VALUE);
        Due.due("-0.0 and 0.0", x.like(0, 1), 0);
        x.get(0, 5);
        Due.all("like of no row", Due.UNKNOWN, x.like(4, 0), x.like(0, 4), x.like(-2, -1));
        x.like(0, 0);
        Due.raised(x, 2, 0);
    }

    private static void count() {
        ReservoirWall x = Due.promise(11);
        x.row(3, 4);
        x.putReal(0, 0, Due.bits(0.9));
        x.putReal(0, 1, Due.bits(-1.5));
        x.putReal(0, 2, Due.NO_NUMBER);
        Due.due("cells", x.count(0, 0), 4);
        Due.due("kind", x.count(0, 1), 3);
        Due.due("not 0, as WHOLES", x.count(0, 2), 1);
        Due.all("what", Due.OUTSIDE, x.count(0, 3), x.count(0, -1), x.count(-1, 3));
        Due.all("count of no row", Due.UNKNOWN, x.count(1, 0), x.count(-2, 3));
        Due.due("count(NONE)", x.count(-1, 0), Due.NULL);
        Due.raised(x, 1, 0);
    }

    private static void find() {
        ReservoirWall x = Due.promise(12);
        x.row(2, 4);
        x.row(1, 0);
        x.putReal(0, 1, Due.bits(2.9));
        x.putReal(0, 2, Due.bits(2.0));
        Due.due("the last one", x.find(0, 2), 2);
        Due.due("the last 0", x.find(0, 0), 3);
        Due.due("none", x.find(0, 3), Due.NONE);
        Due.due("none of none", x.find(1, 0), Due.NONE);
        Due.all("find in no row", Due.UNKNOWN, x.find(2, 0), x.find(-2, 0));
        Due.due("find(NONE)", x.find(-1, 0), Due.NULL);
        Due.raised(x, 1, 0);
    }

    private static void mean() {
        ReservoirWall x = Due.promise(13);
        x.row(7, 2);
        x.row(1, 0);
        x.row(3, 2);
        x.put(0, 0, -3);
        Due.due("cut towards 0", x.mean(0), -1);
        x.put(0, 0, Long.MAX_VALUE);
        x.put(0, 1, 3);
        Due.due("going round", x.mean(0), (Long.MIN_VALUE + 2) / 2);
        x.putReal(2, 0, Due.bits(1.9));
        x.putReal(2, 1, Due.bits(1.9));
        Due.due("of WHOLES", x.mean(2), 1);
        Due.due("no cells", x.mean(1), Due.ARITHMETIC);
        Due.raised(x, 6, 0);
        Due.all("mean of no row", Due.UNKNOWN, x.mean(3), x.mean(-2));
        Due.due("mean(NONE)", x.mean(-1), Due.NULL);
    }

    private static void bed() {
        ReservoirWall x = Due.promise(14);
        Due.due("bed(1, 2, 3)", x.bed(1, 2, 3), 0);
        Due.due("it has STRIPS", x.bare(0, -1), 0);
        Due.due("of three cells", x.spot(0, 1, 2), 0);
        Due.due("and no more", x.spot(0, 1, 3), Due.INDEX);
        Due.due("open", x.bed(3, 16, -1), 1);
        Due.due("all bare", x.bare(1, -1), 16);
        Due.due("STRIPS without cells", x.bed(6, 1, 0), 2);
        Due.due("no STRIPS", x.bed(6, 0, 64), 3);
        Due.due("rows of beds have no number", x.about(2), 0);
        Due.all("kinds", Due.OUTSIDE, x.bed(0, 1, 1), x.bed(2, 1, 1), x.bed(4, 1, 1), x.bed(5, 1, 1), x.bed(7, 1, 1), x.bed(-1, 1, 1), x.bed(0, -1, -2));
        Due.all("above", Due.OUTSIDE, x.bed(1, 17, 1), x.bed(1, 1, 65), x.bed(1, -1, 65), x.bed(1, 17, -2));
        Due.all("below", Due.SIZE, x.bed(1, -1, 1), x.bed(1, 1, -2), x.bed(1, 0, -2), x.bed(1, -1, -1));
        Due.raised(x, 3, 0);
        while (x.about(3) < 20) x.bed(1, 1, 1);
        Due.raised(x, 0, 0);
        Due.all("the 21st", Due.FULL, x.bed(1, 1, 1), x.bed(1, -1, 1));
        Due.due("OUTSIDE ahead of FULL", x.bed(1, 17, 1), Due.OUTSIDE);
    }

    private static void lay() {
        ReservoirWall x = Due.promise(15);
        x.bed(1, 2, -1);
        x.row(1, 2);
        x.row(3, 2);
        Due.due("lay(0, 1, 0)", x.lay(0, 1, 0), 1);
        x.put(0, 1, 5);
        Due.due("the ROW itself", x.spot(0, 1, 1), 5);
        x.setSpot(0, 1, 0, 6);
        Due.due("both ways", x.get(0, 0), 6);
        Due.due("another kind", x.lay(0, 0, 1), Due.STORE);
        Due.raised(x, 5, 0);
        Due.all("beyond", Due.INDEX, x.lay(0, 2, 0), x.lay(0, -1, 1), x.lay(0, 2, -1));
        Due.all("no bed, no row", Due.UNKNOWN, x.lay(1, 0, 0), x.lay(-1, 0, 0), x.lay(0, 9, 2), x.lay(0, 0, -2));
        Due.due("still bare", x.bare(0, -1), 1);
        Due.due("lay(0, 1, NONE)", x.lay(0, 1, -1), 1);
        Due.due("bare again", x.bare(0, -1), 2);
        Due.raised(x, 0, 0);
    }

    private static void spot() {
        ReservoirWall x = Due.promise(16);
        x.bed(3, 3, 2);
        x.lay(0, 1, -1);
        x.setSpot(0, 0, 1, 9);
        Due.due("spot(0, 0, 1)", x.spot(0, 0, 1), 9);
        Due.due("its neighbours", x.spot(0, 2, 1), 0);
        Due.due("no STRIP", x.spot(0, 1, 7), Due.NULL);
        Due.raised(x, 1, 0);
        Due.all("beyond", Due.INDEX, x.spot(0, 3, 0), x.spot(0, -1, 0), x.spot(0, 0, 2), x.spot(0, 0, -1));
        Due.all("no bed", Due.UNKNOWN, x.spot(1, 0, 0), x.spot(-1, 0, 0));
        Due.raised(x, 2, 0);
        x.row(3, 1);
        x.putReal(0, 0, Due.bits(-7.9));
        x.lay(0, 1, 0);
        Due.due("told as a WHOLE", x.spot(0, 1, 0), -7);
    }

    private static void setSpot() {
        ReservoirWall x = Due.promise(17);
        x.bed(6, 2, 2);
        x.bed(1, 2, -1);
        Due.due("setSpot(0, 1, 0, 8)", x.setSpot(0, 1, 0, 8), 1);
        Due.due("a truth", x.spot(0, 1, 0), 1);
        Due.due("no STRIP", x.setSpot(1, 0, 0, 1), Due.NULL);
        Due.all("beyond", Due.INDEX, x.setSpot(0, 2, 0, 1), x.setSpot(0, -1, 0, 1), x.setSpot(0, 0, 2, 1), x.setSpot(0, 0, -1, 1));
        Due.all("no bed", Due.UNKNOWN, x.setSpot(2, 0, 0, 1), x.setSpot(-1, 0, 0, 1));
        Due.raised(x, 2, 0);
    }

    private static void bare() {
        ReservoirWall x = Due.promise(18);
        x.bed(1, 4, -1);
        x.row(1, 0);
        x.lay(0, 1, 0);
        Due.due("how many", x.bare(0, -1), 3);
        Due.due("the first", x.bare(0, 0), 0);
        Due.due("the second", x.bare(0, 1), 2);
        Due.due("the third", x.bare(0, 2), 3);
        Due.all("none", Due.NONE, x.bare(0, 3), x.bare(0, -2), x.bare(0, Due.LEAST), x.bare(0, Due.MOST));
        x.lay(0, 7, 0);
        Due.all("no bed", Due.UNKNOWN, x.bare(1, 0), x.bare(-1, 0));
        x.bare(0, 0);
        Due.raised(x, 2, 0);
    }
}
