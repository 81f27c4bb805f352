import java.lang.reflect.Field;

/** Promises 76 to 83: the book. */
public final class BookTest {
    public static void main(String[] args) throws ReflectiveOperationException {
        book();
        bookIsFull();
        pageByte();
        damage();
        tear();
        twin();
        open();
        opened();
        lost();
        Due.end("BookTest");
    }

    private static int sumOf(ReservoirWall x, int page) {
        int s = 0;
        for (int i = 0; i < 28; i++) {
            s ^= x.pageByte(page, i);
            s = Integer.rotateLeft(s, 7);
            s *= 0xC2B2AE3D;
        }
        return s;
    }

    /** A byte is altered, and THE SUM made right again. */
    private static void forge(ReservoirWall x, int page, int i, int mask) {
        x.damage(page, i, mask);
        int s = sumOf(x, page);
        for (int j = 0; j < 4; j++) {
            int wrong = x.pageByte(page, 28 + j) ^ s >>> 24 - 8 * j & 255;
            if (wrong != 0) x.damage(page, 28 + j, wrong);
        }
    }

    private static ReservoirWall booked(int promise, int bookings) {
        ReservoirWall x = Due.promise(promise);
        x.row(5, 3);
        for (int i = 0; i < 3; i++) x.put(0, i, i + 1);
        for (int i = 0; i < bookings; i++) x.book(0);
        return x;
    }

    private static void book() {
        ReservoirWall x = booked(76, 0);
        x.row(3, 24);
        x.row(1, 25);
        x.row(1, 0);
        Due.due("the first NUMBER", x.book(0), 1);
        Due.raised(x, 0, 0);
        x.putReal(1, 23, Due.bits(-1.9));
        x.put(1, 0, 511);
        Due.due("the second", x.book(1), 2);
        Due.due("n", x.pageByte(1, 2), 24);
        Due.due("the lowest bits", x.pageByte(1, 3), 255);
        Due.due("of the WHOLE -1", x.pageByte(1, 26), 255);
        Due.due("0 up to 28 bytes", x.pageByte(1, 27), 0);
        Due.due("a ROW without cells", x.book(3), 3);
        Due.due("n 0", x.opened(2, 1), 0);
        Due.due("more than 24 cells", x.book(2), Due.OUTSIDE);
        Due.raised(x, 0, 0);
        Due.due("NONE", x.book(-1), Due.NULL);
        Due.raised(x, 1, 0);
        Due.all("no row", Due.UNKNOWN, x.book(4), x.book(-2));
        Due.due("about(10)", x.about(10), 3);
        for (int i = 4; i <= 300; i++) x.book(0);
        Due.due("round: 300 is on page 11", x.pageByte(11, 0), 1);
        Due.due("300 is on page 11", x.pageByte(11, 1), 44);
        Due.due("32 ROWS", x.open(), 32);
        Due.due("the least NUMBER", x.opened(0, 0), 269);
        Due.due("the greatest", x.opened(31, 0), 300);
    }

    /**
     * "FULL: 60000 were." So many are more than a wall is used for, so the test sets their count itself; whoever keeps
     * it elsewhere is to change the names of its fields here.
     */
    private static void bookIsFull() throws ReflectiveOperationException {
        ReservoirWall x = booked(76, 1);
        x.row(1, 25);
        Field pages = ReservoirWall.class.getDeclaredField("pages");
        pages.setAccessible(true);
        Field bookings = pages.getType().getDeclaredField("bookings");
        bookings.setAccessible(true);
        bookings.setInt(pages.get(x), 59998);
        Due.due("the 59999th", x.book(0), 59999);
        Due.due("the 60000th", x.book(0), 60000);
        Due.raised(x, 0, 0);
        Due.due("its page", x.opened(2, 2), 59999 % 32);
        Due.due("its NUMBER's high byte", x.pageByte(59999 % 32, 0), 60000 / 256);
        Due.due("its NUMBER's low byte", x.pageByte(59999 % 32, 1), 60000 % 256);
        Due.due("its NUMBER", x.opened(2, 0), 60000);
        Due.due("the 60001st", x.book(0), Due.FULL);
        Due.due("about(10)", x.about(10), 60000);
        Due.due("nothing was written", x.open(), 3);
        Due.due("OUTSIDE ahead of FULL", x.book(1), Due.OUTSIDE);
        Due.due("NULL ahead of FULL", x.book(-1), Due.NULL);
        Due.due("UNKNOWN ahead of FULL", x.book(2), Due.UNKNOWN);
        Due.due("still FULL", x.book(0), Due.FULL);
        Due.raised(x, 1, 0);
    }

    private static void pageByte() {
        ReservoirWall x = booked(77, 1);
        int[] bytes = {0, 1, 3, 1, 2, 3};
        for (int i = 0; i < 28; i++) Due.due("byte " + i, x.pageByte(0, i), i < 6 ? bytes[i] : 0);
        int s = sumOf(x, 0);
        for (int i = 0; i < 4; i++) Due.due("THE SUM's byte " + i, x.pageByte(0, 28 + i), s >>> 24 - 8 * i & 255);
        for (int i = 0; i < 32; i++) Due.due("the last page", x.pageByte(31, i), 0);
        Due.raised(x, 0, 0);
        Due.all("beyond", Due.INDEX, x.pageByte(32, 0), x.pageByte(-1, 0), x.pageByte(0, 32), x.pageByte(0, -1), x.pageByte(1, -1), x.pageByte(Due.MOST, 0), x.pageByte(0, Due.LEAST));
        Due.raised(x, 2, 0);
    }

    private static void damage() {
        ReservoirWall x = booked(78, 2);
        Due.due("damage(0, 3, 255)", x.damage(0, 3, 255), 1);
        Due.raised(x, 0, 0);
        Due.due("xor", x.pageByte(0, 3), 254);
        Due.due("it is not WHOLE", x.open(), 1);
        Due.due("again", x.damage(0, 3, 255), 1);
        Due.due("it is", x.open(), 2);
        for (int i = 0; i < 32; i++) {
            x.damage(1, i, 1 << i % 8);
            Due.due("each byte counts: " + i, x.open(), 1);
            x.damage(1, i, 1 << i % 8);
        }
        Due.all("masks", Due.OUTSIDE, x.damage(0, 0, 0), x.damage(0, 0, 256), x.damage(0, 0, -1), x.damage(99, 99, 0));
        Due.raised(x, 0, 0);
        Due.all("beyond", Due.INDEX, x.damage(32, 0, 1), x.damage(-1, 0, 1), x.damage(0, 32, 1), x.damage(0, -1, 1));
        Due.raised(x, 2, 0);
    }

    private static void tear() {
        ReservoirWall x = booked(79, 2);
        Due.due("tear(0, 32)", x.tear(0, 32), 1);
        Due.due("none", x.open(), 2);
        Due.due("tear(0, 4)", x.tear(0, 4), 1);
        Due.due("the byte ahead", x.pageByte(0, 3), 1);
        for (int i = 4; i < 32; i++) Due.due("byte " + i, x.pageByte(0, i), 0);
        Due.due("not WHOLE", x.lost(0, 0), 0);
        Due.due("tear(0, 0)", x.tear(0, 0), 1);
        Due.due("all 0", x.lost(0, -1), 0);
        Due.due("the other page stands", x.open(), 1);
        Due.all("no page", Due.UNKNOWN, x.tear(-1, 0), x.tear(32, 99));
        Due.all("from where", Due.OUTSIDE, x.tear(0, -1), x.tear(0, 33));
    }

    private static void twin() {
        ReservoirWall x = booked(80, 2);
        Due.due("twin(1, 5)", x.twin(1, 5), 1);
        for (int i = 0; i < 32; i++) Due.due("byte " + i, x.pageByte(5, i), x.pageByte(1, i));
        Due.due("to itself", x.twin(1, 1), 1);
        Due.due("ROWS", x.open(), 2);
        Due.due("an empty one", x.twin(9, 0), 1);
        Due.due("ROWS", x.open(), 1);
        x.damage(5, 4, 9);
        Due.due("bytes of its own", x.pageByte(1, 4), 2);
        Due.all("no page", Due.UNKNOWN, x.twin(-1, 0), x.twin(0, -1), x.twin(32, 0), x.twin(0, 32));
    }

    private static void open() {
        ReservoirWall x = booked(81, 3);
        Due.due("open()", x.open(), 3);
        x.twin(0, 8);
        Due.due("doubled ones are no ROWS", x.open(), 3);
        forge(x, 8, 3, 7);
        Due.due("nor are unlike ones", x.open(), 3);
        forge(x, 8, 0, 1);
        Due.due("another NUMBER is", x.open(), 4);
        forge(x, 8, 2, 3 ^ 24);
        Due.due("n 24", x.open(), 4);
        forge(x, 8, 2, 24 ^ 25);
        Due.due("n 25", x.open(), 3);
        forge(x, 1, 1, 2);
        Due.due("NUMBER 0", x.open(), 2);
        forge(x, 2, 20, 5);
        Due.due("what stands behind n bytes is not looked at", x.open(), 2);
    }

    private static void opened() {
        ReservoirWall x = booked(82, 3);
        x.put(0, 0, -2);
        x.book(0);
        forge(x, 0, 0, 2);
        int[] numbers = {2, 3, 4, 513}, on = {1, 2, 3, 0};
        for (int i = 0; i < 4; i++) {
            Due.due("NUMBER of " + i, x.opened(i, 0), numbers[i]);
            Due.due("n of " + i, x.opened(i, 1), 3);
            Due.due("page of " + i, x.opened(i, 2), on[i]);
        }
        Due.due("byte 0", x.opened(2, 10), 254);
        Due.due("byte 1", x.opened(2, 11), 2);
        Due.due("byte 2", x.opened(2, 12), 3);
        Due.all("what", Due.OUTSIDE, x.opened(0, -1), x.opened(0, 3), x.opened(0, 9), x.opened(0, 13), x.opened(0, Due.MOST));
        Due.all("no ROW", Due.UNKNOWN, x.opened(4, 0), x.opened(-1, 0), x.opened(Due.MOST, 3), x.opened(Due.LEAST, 0));
        x.twin(3, 9);
        x.twin(3, 0);
        Due.due("the first page of a NUMBER", x.opened(2, 2), 0);
    }

    private static void lost() {
        ReservoirWall x = booked(83, 6);
        for (int what = 0; what < 3; what++) Due.due("how many " + what, x.lost(what, -1), 0);
        x.tear(4, 30);
        x.damage(20, 9, 1);
        x.twin(0, 7);
        x.twin(0, 3);
        x.twin(0, 9);
        forge(x, 7, 5, 1);
        Due.due("not WHOLE", x.lost(0, -1), 2);
        Due.due("the first", x.lost(0, 0), 4);
        Due.due("the second", x.lost(0, 1), 20);
        Due.due("UNLIKE", x.lost(1, -1), 1);
        Due.due("UNLIKE, the first", x.lost(1, 0), 7);
        Due.due("DOUBLED", x.lost(2, -1), 2);
        Due.due("DOUBLED, the first", x.lost(2, 0), 3);
        Due.due("DOUBLED, the second", x.lost(2, 1), 9);
        Due.all("none", Due.NONE, x.lost(0, 2), x.lost(1, 1), x.lost(2, 2), x.lost(0, -2), x.lost(0, Due.MOST), x.lost(0, Due.LEAST));
        Due.all("what", Due.OUTSIDE, x.lost(-1, 0), x.lost(3, 0), x.lost(3, -1));
        x.tear(0, 0);
        Due.due("the first page is another one now", x.lost(1, 0), 7);
        Due.due("one doubled", x.lost(2, -1), 1);
    }
}
