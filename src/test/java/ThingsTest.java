/** Promises 19 to 39: things, racks, boxes, cards. */
public final class ThingsTest {
    public static void main(String[] args) {
        thing();
        says();
        rack();
        hang();
        down();
        hung();
        asked();
        haul();
        haulOnOneRack();
        box();
        isA();
        taken();
        used();
        card();
        field();
        fieldOf();
        raiseField();
        link();
        along();
        ring();
        cardAsk();
        copy();
        Due.end("ThingsTest");
    }

    /** A THING of each SORT, its number the SORT's, of LOADS 10, 20 .. 60. */
    private static ReservoirWall ofEverySort(int promise) {
        ReservoirWall x = Due.promise(promise);
        for (int sort = 0; sort < 6; sort++) x.thing(sort, 10 * sort + 10);
        return x;
    }

    private static void thing() {
        ReservoirWall x = Due.promise(19);
        Due.all("sorts", Due.OUTSIDE, x.thing(-1, 0), x.thing(6, 0));
        Due.all("loads", Due.OUTSIDE, x.thing(0, -1), x.thing(0, 1001));
        Due.due("thing(0, 0)", x.thing(0, 0), 0);
        Due.due("thing(5, 1000)", x.thing(5, 1000), 1);
        for (int i = 2; i < 40; i++) Due.due("thing", x.thing(i % 6, i), i);
        Due.due("the 41st", x.thing(1, 1), Due.FULL);
        Due.due("OUTSIDE ahead of FULL", x.thing(6, 1), Due.OUTSIDE);
        Due.due("about(4)", x.about(4), 40);
    }

    private static final int[][] TOLD = {
        {11, 10, 120, Due.CAST, Due.CAST, 11000},
        {12, 27, 81, Due.CAST, 729, 12000},
        {21, 30, Due.CAST, 171, Due.CAST, 21000},
        {21, 40, Due.CAST, 321, 1600, 21000},
        {31, 50, Due.CAST, 281, Due.CAST, 31000},
        {32, 120, Due.CAST, 632, 14368, 32000},
    };

    private static void says() {
        ReservoirWall x = ofEverySort(20);
        for (int sort = 0; sort < 6; sort++) {
            for (int ask = 0; ask < 6; ask++) {
                Due.due("says(" + sort + ", " + ask + ")", x.says(sort, ask), TOLD[sort][ask]);
                Due.raised(x, TOLD[sort][ask] == Due.CAST ? 4 : 0, 0);
            }
        }
        Due.all("asks", Due.OUTSIDE, x.says(0, -1), x.says(0, 6), x.says(-1, 6));
        Due.all("no thing", Due.UNKNOWN, x.says(6, 0), x.says(-2, 9));
        Due.all("NONE", Due.NULL, x.says(-1, 0), x.says(-1, 2), x.says(-1, 5));
        Due.raised(x, 1, 0);
        x.thing(5, 1000);
        Due.due("the greatest cost", x.says(6, 4), 3999968);
    }

    private static void rack() {
        ReservoirWall x = Due.promise(21);
        Due.all("built for", Due.OUTSIDE, x.rack(-1, 1), x.rack(10, 1), x.rack(10, -1));
        Due.all("above 16", Due.OUTSIDE, x.rack(0, 17), x.rack(0, Due.MOST));
        Due.all("below 0", Due.SIZE, x.rack(0, -1), x.rack(9, Due.LEAST));
        Due.raised(x, 3, 0);
        Due.due("rack(9, 0)", x.rack(9, 0), 0);
        Due.raised(x, 0, 0);
        Due.due("rack(0, 16)", x.rack(0, 16), 1);
        for (int i = 0; i < 16; i++) Due.due("bare at first", x.hung(1, i), Due.NONE);
        while (x.about(5) < 20) x.rack(3, 1);
        Due.all("the 21st", Due.FULL, x.rack(0, 1), x.rack(0, -1));
        Due.due("OUTSIDE ahead of FULL", x.rack(0, 17), Due.OUTSIDE);
    }

    private static final String[] FITTING = {"01", "1", "23", "3", "45", "5", "01", "2345", "135", "012345"};

    private static boolean fits(int sort, int built) {
        return FITTING[built].indexOf('0' + sort) >= 0;
    }

    private static void hang() {
        ReservoirWall x = ofEverySort(22);
        for (int built = 0; built < 10; built++) {
            x.rack(built, 6);
            for (int sort = 0; sort < 6; sort++) {
                Due.due("hang " + sort + " on " + built, x.hang(built, sort, sort), fits(sort, built) ? 1 : Due.STORE);
                Due.raised(x, fits(sort, built) ? 0 : 5, 0);
                Due.due("hung", x.hung(built, sort), fits(sort, built) ? sort : Due.NONE);
            }
        }
        Due.due("nothing", x.hang(9, 0, -1), 1);
        Due.due("it is bare", x.hung(9, 0), Due.NONE);
        Due.due("the same thing twice", x.hang(9, 0, 1), 1);
        Due.due("it hangs at both", x.hung(9, 1), 1);
        Due.all("beyond", Due.INDEX, x.hang(0, 6, 0), x.hang(0, -1, 0), x.hang(1, 6, 0), x.hang(0, 6, -1));
        Due.due("NULL ahead of INDEX", x.hang(-1, 9, 0), Due.NULL);
        Due.all("no rack, no thing", Due.UNKNOWN, x.hang(10, 0, 0), x.hang(-2, 0, 0), x.hang(0, 9, 6), x.hang(-1, 0, -2));
        Due.raised(x, 1, 0);
    }

    private static void down() {
        ReservoirWall x = ofEverySort(23);
        x.rack(9, 6);
        for (int as = 0; as < 10; as++) {
            for (int sort = 0; sort < 6; sort++) {
                x.hang(0, sort, sort);
                Due.due("down " + sort + " as " + as, x.down(0, sort, as), fits(sort, as) ? sort : Due.CAST);
                Due.raised(x, fits(sort, as) ? 0 : 4, 0);
                Due.due("what hangs there", x.hung(0, sort), fits(sort, as) ? Due.NONE : sort);
                x.hang(0, sort, -1);
                Due.due("of bare places NONE", x.down(0, sort, as), Due.NONE);
            }
        }
        Due.all("as", Due.OUTSIDE, x.down(0, 0, -1), x.down(0, 0, 10), x.down(-1, 9, 10));
        Due.all("beyond", Due.INDEX, x.down(0, 6, 9), x.down(0, -1, 9));
        Due.due("NULL", x.down(-1, 9, 9), Due.NULL);
        Due.all("no rack", Due.UNKNOWN, x.down(1, 0, 9), x.down(-2, 0, 10));
    }

    private static void hung() {
        ReservoirWall x = ofEverySort(24);
        x.rack(7, 3);
        x.hang(0, 1, 5);
        Due.due("hung(0, 1)", x.hung(0, 1), 5);
        Due.due("it stays", x.hung(0, 1), 5);
        Due.due("bare", x.hung(0, 0), Due.NONE);
        Due.raised(x, 0, 0);
        Due.all("beyond", Due.INDEX, x.hung(0, 3), x.hung(0, -1));
        Due.due("NULL", x.hung(-1, 0), Due.NULL);
        Due.raised(x, 1, 0);
        Due.all("no rack", Due.UNKNOWN, x.hung(1, 0), x.hung(-2, 0));
    }

    private static void asked() {
        ReservoirWall x = ofEverySort(25);
        x.rack(9, 7);
        for (int sort = 0; sort < 6; sort++) {
            x.hang(0, sort, sort);
            for (int ask = 0; ask < 6; ask++) Due.due("asked(0, " + sort + ", " + ask + ")", x.asked(0, sort, ask), TOLD[sort][ask]);
        }
        Due.due("CAST", x.asked(0, 0, 3), Due.CAST);
        Due.raised(x, 4, 0);
        Due.all("bare", Due.NULL, x.asked(0, 6, 0), x.asked(0, 6, 2));
        Due.all("beyond", Due.INDEX, x.asked(0, 7, 0), x.asked(0, -1, 0));
        Due.due("NONE", x.asked(-1, 7, 0), Due.NULL);
        Due.all("asks", Due.OUTSIDE, x.asked(0, 0, 6), x.asked(-1, 0, -1));
        Due.all("no rack", Due.UNKNOWN, x.asked(1, 0, 6), x.asked(-2, 0, 0));
    }

    private static void haul() {
        ReservoirWall x = ofEverySort(26);
        x.rack(9, 6);
        x.rack(7, 6);
        x.hang(0, 0, 2);
        x.hang(0, 2, 5);
        x.hang(0, 3, 0);
        x.hang(1, 1, 3);
        Due.due("haul(0, 0, 1, 0, 3)", x.haul(0, 0, 1, 0, 3), 3);
        Due.raised(x, 0, 0);
        Due.due("place 0", x.hung(1, 0), 2);
        Due.due("place 1 is bare, too", x.hung(1, 1), Due.NONE);
        Due.due("place 2", x.hung(1, 2), 5);
        Due.due("it still hangs at the first", x.hung(0, 2), 5);
        Due.due("haul(0, 1, 1, 3, 3)", x.haul(0, 1, 1, 3, 3), Due.STORE);
        Due.raised(x, 5, 2);
        Due.due("a bare one ahead of it hangs", x.hung(1, 3), Due.NONE);
        Due.due("the one ahead of it hangs", x.hung(1, 4), 5);
        Due.due("it does not", x.hung(1, 5), Due.NONE);
        Due.raised(x, 0, 0);
        Due.all("n 0", 0, x.haul(0, 6, 1, 6, 0), x.haul(0, 0, 0, 0, 0));
        Due.all("beyond", Due.INDEX, x.haul(0, 7, 1, 0, 0), x.haul(0, 0, 1, 7, 0), x.haul(0, 0, 1, 0, -1), x.haul(0, 0, 1, 1, 6), x.haul(0, 1, 1, 0, 6), x.haul(0, -1, 1, 0, 1), x.haul(0, 0, 1, -1, 1), x.haul(0, 2, 1, 2, Due.MOST));
        Due.raised(x, 2, 0);
        Due.all("NONE", Due.NULL, x.haul(-1, 0, 1, 0, 1), x.haul(0, 9, -1, 0, 1));
        Due.all("no rack", Due.UNKNOWN, x.haul(2, 0, 1, 0, 1), x.haul(-1, 0, 2, 0, 1), x.haul(-2, 0, -1, 0, 1));
    }

    private static void haulOnOneRack() {
        ReservoirWall x = ofEverySort(26);
        x.rack(9, 4);
        for (int i = 0; i < 4; i++) x.hang(0, i, i);
        Due.due("haul(0, 0, 0, 1, 3)", x.haul(0, 0, 0, 1, 3), 3);
        int[] up = {0, 0, 1, 2};
        for (int i = 0; i < 4; i++) Due.due("upwards, place " + i, x.hung(0, i), up[i]);
        Due.due("haul(0, 1, 0, 0, 3)", x.haul(0, 1, 0, 0, 3), 3);
        int[] back = {0, 1, 2, 2};
        for (int i = 0; i < 4; i++) Due.due("back, place " + i, x.hung(0, i), back[i]);
    }

    private static void box() {
        ReservoirWall x = ofEverySort(27);
        x.row(4, 3);
        x.rack(6, 2);
        x.bed(1, 5, -1);
        x.get(0, 9);
        Due.all("box", 1, x.box(0, 1, 0), x.box(9, 2, 5), x.box(1, 3, 0), x.box(2, 4, 0), x.box(3, 0, 99));
        Due.raised(x, 2, 0);
        Due.all("no box", Due.UNKNOWN, x.box(-1, 1, 0), x.box(10, 9, 0));
        Due.all("what", Due.OUTSIDE, x.box(0, -1, 0), x.box(0, 5, 99));
        Due.all("no such", Due.UNKNOWN, x.box(0, 1, 1), x.box(0, 2, 6), x.box(0, 3, 1), x.box(0, 4, 1), x.box(0, 1, -1), x.box(0, 2, -1), x.box(0, 3, -1), x.box(0, 4, -1));
        Due.due("box 0 holds what it held", x.used(0), 3);
        x.box(0, 0, -7);
        Due.due("box 0 holds nothing", x.used(0), Due.NULL);
    }

    private static void isA() {
        ReservoirWall x = ofEverySort(28);
        for (int kind = 0; kind < 8; kind++) {
            x.row(kind, 1);
            x.box(0, 1, kind);
            for (int k = 0; k < 14; k++) Due.due("row " + kind + " is " + k, x.isA(0, k), k == kind ? 1 : 0);
        }
        for (int sort = 0; sort < 6; sort++) {
            x.box(0, 2, sort);
            for (int k = 0; k < 14; k++) Due.due("thing " + sort + " is " + k, x.isA(0, k), k == 8 || k == 9 && sort < 2 || k == 10 && sort == 1 ? 1 : 0);
        }
        for (int built = 0; built < 10; built++) {
            x.rack(built, 1);
            x.box(0, 3, built);
            for (int k = 0; k < 14; k++) Due.due("rack " + built + " is " + k, x.isA(0, k), k == 11 && (built < 2 || built == 6) || k == 12 && built < 2 ? 1 : 0);
        }
        int[] kinds = {1, 3, 6};
        for (int bed = 0; bed < 3; bed++) {
            x.bed(kinds[bed], 1, 1);
            x.box(0, 4, bed);
            for (int k = 0; k < 14; k++) Due.due("bed " + bed + " is " + k, x.isA(0, k), k == 13 && bed == 0 ? 1 : 0);
        }
        for (int k = 0; k < 14; k++) Due.due("nothing is " + k, x.isA(1, k), 0);
        x.used(1);
        x.isA(1, 0);
        Due.raised(x, 1, 0);
        Due.all("kinds", Due.OUTSIDE, x.isA(0, -1), x.isA(0, 14));
        Due.all("no box", Due.UNKNOWN, x.isA(-1, 14), x.isA(10, 0));
    }

    private static void taken() {
        ReservoirWall x = ofEverySort(29);
        x.row(5, 7);
        x.rack(1, 4);
        x.bed(1, 3, 9);
        x.box(0, 1, 0);
        Due.due("cells", x.taken(0, 5), 7);
        Due.due("other cells", x.taken(0, 0), Due.CAST);
        Due.raised(x, 4, 0);
        x.box(0, 2, 1);
        Due.all("a wire", 1, x.taken(0, 8), x.taken(0, 9), x.taken(0, 10));
        Due.raised(x, 0, 0);
        Due.all("it is no more", Due.CAST, x.taken(0, 7), x.taken(0, 11), x.taken(0, 13));
        x.box(0, 3, 0);
        Due.all("places", 4, x.taken(0, 11), x.taken(0, 12));
        x.box(0, 4, 0);
        Due.due("STRIPS", x.taken(0, 13), 3);
        Due.due("no cells", x.taken(0, 1), Due.CAST);
        for (int kind = 0; kind < 14; kind++) Due.due("nothing", x.taken(5, kind), Due.NONE);
        Due.raised(x, 0, 0);
        Due.all("kinds", Due.OUTSIDE, x.taken(0, -1), x.taken(5, 14));
        Due.all("no box", Due.UNKNOWN, x.taken(-1, 14), x.taken(10, 0));
    }

    private static void used() {
        ReservoirWall x = ofEverySort(30);
        x.row(5, 7);
        x.rack(1, 4);
        x.bed(3, 3, 9);
        x.box(0, 1, 0);
        Due.due("cells", x.used(0), 7);
        x.box(0, 2, 5);
        Due.due("a stone's weight", x.used(0), 120);
        x.box(0, 3, 0);
        Due.due("places", x.used(0), 4);
        x.box(0, 4, 0);
        Due.due("STRIPS", x.used(0), 3);
        Due.raised(x, 0, 0);
        Due.all("nothing", Due.NULL, x.used(1), x.used(9), x.used(3));
        Due.raised(x, 1, 0);
        Due.all("no box", Due.UNKNOWN, x.used(-1), x.used(10));
        Due.all("box 9", 1, x.box(9, 2, 1), x.isA(9, 10), x.taken(9, 10));
        Due.due("box 9, used", x.used(9), 27);
    }

    private static void card() {
        ReservoirWall x = Due.promise(31);
        for (int i = 0; i < 20; i++) Due.due("card()", x.card(), i);
        Due.due("the 21st", x.card(), Due.FULL);
        Due.due("about(6)", x.about(6), 20);
        for (int f = 0; f < 8; f++) Due.due("fields are 0", x.fieldOf(19, f), 0);
        Due.due("none comes next", x.along(19, 1), Due.NONE);
        Due.due("no thing", x.cardAsk(19, 0), Due.NULL);
    }

    private static void field() {
        ReservoirWall x = Due.promise(32);
        x.card();
        long v = 0x123456789ABCDEF0L;
        long[] told = {(byte) v, (short) v, (char) v, (int) v, v, (long) (float) v, (long) (double) v, 1};
        for (int f = 0; f < 8; f++) {
            Due.due("field " + f, x.field(0, f, v), 1);
            Due.due("fieldOf " + f, x.fieldOf(0, f), told[f]);
        }
        Due.all("fields", Due.OUTSIDE, x.field(0, -1, 1), x.field(0, 8, 1), x.field(-1, 8, 1));
        Due.due("NONE", x.field(-1, 0, 1), Due.NULL);
        Due.raised(x, 1, 0);
        Due.all("no card", Due.UNKNOWN, x.field(1, 0, 1), x.field(-2, 8, 1));
        Due.raised(x, 1, 0);
        x.field(0, 0, 0);
        Due.raised(x, 0, 0);
    }

    private static void fieldOf() {
        ReservoirWall x = Due.promise(33);
        x.card();
        x.card();
        x.field(0, 2, -1);
        Due.due("a char", x.fieldOf(0, 2), 65535);
        Due.due("another card's", x.fieldOf(1, 2), 0);
        Due.all("fields", Due.OUTSIDE, x.fieldOf(0, -1), x.fieldOf(0, 8), x.fieldOf(-1, 8));
        Due.due("NONE", x.fieldOf(-1, 0), Due.NULL);
        Due.raised(x, 1, 0);
        Due.all("no card", Due.UNKNOWN, x.fieldOf(2, 0), x.fieldOf(-2, 8));
    }

    private static void raiseField() {
        ReservoirWall x = Due.promise(34);
        x.card();
        for (int f = 0; f < 8; f++) Due.due("behind " + f, x.raiseField(0, f, 3, false), f == 7 ? 1 : 3);
        for (int f = 0; f < 8; f++) Due.due("before " + f, x.raiseField(0, f, 2, true), f == 7 ? 1 : 3);
        for (int f = 0; f < 8; f++) Due.due("it rose " + f, x.fieldOf(0, f), f == 7 ? 1 : 5);
        Due.due("a byte goes round", x.raiseField(0, 0, 123, false), -128);
        Due.due("a char goes round", x.raiseField(0, 2, -6, false), 65535);
        Due.due("a truth turns", x.raiseField(0, 7, 5, false), 0);
        x.field(0, 5, 16777216);
        Due.due("in floats", x.raiseField(0, 5, 1, false), 16777216);
        x.field(0, 6, 16777216);
        Due.due("in doubles", x.raiseField(0, 6, 1, false), 16777217);
        Due.all("fields", Due.OUTSIDE, x.raiseField(0, -1, 1, true), x.raiseField(-1, 8, 1, true));
        Due.due("NONE", x.raiseField(-1, 0, 1, true), Due.NULL);
        Due.all("no card", Due.UNKNOWN, x.raiseField(1, 0, 1, true), x.raiseField(-2, 0, 1, true));
        Due.raised(x, 1, 0);
    }

    private static void link() {
        ReservoirWall x = ofEverySort(35);
        x.card();
        x.card();
        Due.due("link(0, 1, 4)", x.link(0, 1, 4), 1);
        Due.due("next", x.along(0, 1), 1);
        Due.due("thing", x.cardAsk(0, 0), 31);
        Due.due("link(0, NONE, NONE)", x.link(0, -1, -1), 1);
        Due.raised(x, 0, 0);
        Due.due("no next", x.along(0, 1), Due.NONE);
        Due.due("no thing", x.cardAsk(0, 0), Due.NULL);
        Due.due("to itself", x.link(0, 0, 0), 1);
        Due.due("NONE", x.link(-1, 0, 0), Due.NULL);
        Due.raised(x, 1, 0);
        Due.all("no such", Due.UNKNOWN, x.link(2, 0, 0), x.link(-2, 0, 0), x.link(0, 2, 0), x.link(0, -2, 0), x.link(0, 0, 6), x.link(0, 0, -2), x.link(-1, 2, 0));
    }

    private static void along() {
        ReservoirWall x = Due.promise(36);
        for (int i = 0; i < 4; i++) x.card();
        x.link(0, 2, -1);
        x.link(2, 1, -1);
        Due.due("0 along", x.along(0, 0), 0);
        Due.due("1 along", x.along(0, 1), 2);
        Due.due("2 along", x.along(0, 2), 1);
        Due.all("it ends", Due.NONE, x.along(0, 3), x.along(0, 100), x.along(3, 1));
        x.link(1, 0, -1);
        Due.due("round", x.along(0, 100), 2);
        Due.raised(x, 0, 0);
        Due.all("how far", Due.OUTSIDE, x.along(0, -1), x.along(0, 101), x.along(-1, 101));
        Due.all("NONE", Due.NULL, x.along(-1, 0), x.along(-1, 5));
        Due.raised(x, 1, 0);
        Due.all("no card", Due.UNKNOWN, x.along(4, 0), x.along(-2, 101));
    }

    private static void ring() {
        ReservoirWall x = Due.promise(37);
        for (int i = 0; i < 20; i++) x.card();
        Due.due("it ends at once", x.ring(0), Due.NONE);
        x.link(0, 1, -1);
        x.link(1, 2, -1);
        Due.due("it ends", x.ring(0), Due.NONE);
        x.link(2, 1, -1);
        Due.due("a ring further on", x.ring(0), 1);
        Due.due("from 2", x.ring(2), 2);
        x.link(3, 3, -1);
        Due.due("itself", x.ring(3), 3);
        for (int i = 0; i < 20; i++) x.link(i, (i + 1) % 20, -1);
        Due.due("all of them", x.ring(7), 7);
        x.link(19, -1, -1);
        Due.due("all, and an end", x.ring(0), Due.NONE);
        Due.raised(x, 0, 0);
        Due.due("NONE", x.ring(-1), Due.NULL);
        Due.raised(x, 1, 0);
        Due.all("no card", Due.UNKNOWN, x.ring(20), x.ring(-2));
    }

    private static void cardAsk() {
        ReservoirWall x = ofEverySort(38);
        x.card();
        for (int sort = 0; sort < 6; sort++) {
            x.link(0, -1, sort);
            for (int ask = 0; ask < 6; ask++) Due.due("thing " + sort + ", ask " + ask, x.cardAsk(0, ask), TOLD[sort][ask]);
        }
        x.link(0, -1, -1);
        Due.due("no thing", x.cardAsk(0, 2), Due.NULL);
        Due.due("NONE", x.cardAsk(-1, 0), Due.NULL);
        Due.raised(x, 1, 0);
        Due.all("asks", Due.OUTSIDE, x.cardAsk(0, -1), x.cardAsk(0, 6), x.cardAsk(-1, 6));
        Due.all("no card", Due.UNKNOWN, x.cardAsk(1, 0), x.cardAsk(-2, 6));
    }

    private static void copy() {
        ReservoirWall x = ofEverySort(39);
        x.card();
        x.card();
        for (int f = 0; f < 8; f++) x.field(0, f, f + 1);
        x.link(0, 1, 3);
        Due.due("copy(0)", x.copy(0), 2);
        for (int f = 0; f < 8; f++) Due.due("field " + f, x.fieldOf(2, f), f == 7 ? 1 : f + 1);
        Due.due("next", x.along(2, 1), 1);
        Due.due("thing", x.cardAsk(2, 1), 40);
        x.field(0, 3, 99);
        Due.due("fields of its own", x.fieldOf(2, 3), 4);
        x.link(0, 0, -1);
        Due.due("links of its own", x.along(2, 1), 1);
        while (x.about(6) < 20) x.copy(2);
        Due.raised(x, 0, 0);
        Due.due("the 21st", x.copy(0), Due.FULL);
        Due.raised(x, 0, 0);
        Due.due("NULL ahead of FULL", x.copy(-1), Due.NULL);
        Due.raised(x, 1, 0);
        Due.all("no card", Due.UNKNOWN, x.copy(20), x.copy(-2));
    }
}
