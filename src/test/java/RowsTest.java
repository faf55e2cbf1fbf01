/** Promises 1 to 5 and 33: a new object, rows, what was found. */
public final class RowsTest {
    private static final int BAD = TearGuests.BAD;
    private static final int NULL = -1000011, PLACE = -1000012, SIZE = -1000014, STORE = -1000015;
    private static final Due DUE = new Due();

    public static void main(String[] args) {
        newObject();
        row();
        set();
        copy();
        drop();
        status();
        DUE.end();
    }

    private static void newObject() {
        DUE.promise(1);
        TearGuests x = new TearGuests();
        for (int what = 0; what <= 9; what++) {
            DUE.is("count(" + what + ")", x.count(what), 0);
        }
        DUE.is("minutes(1)", x.minutes(1), TearGuests.STATE);
        DUE.is("guest(0, 0)", x.guest(0, 0), BAD);
        DUE.is("NONE", TearGuests.NONE, -1000000);
        DUE.is("BAD", TearGuests.BAD, -1000001);
        DUE.is("STATE", TearGuests.STATE, -1000002);
        DUE.is("FULL", TearGuests.FULL, -1000003);
    }

    private static void row() {
        DUE.promise(2);
        TearGuests x = new TearGuests();
        DUE.is("row(0, 0, 0)", x.row(0, 0, 0), 0);
        DUE.is("row(7, 2, 40)", x.row(7, 2, 40), 40);
        DUE.is("count(0)", x.count(0), 2);
        DUE.is("row(8, 0, 1)", x.row(8, 0, 1), BAD);
        DUE.is("row(-1, 0, 1)", x.row(-1, 0, 1), BAD);
        DUE.is("row(1, -1, 1)", x.row(1, -1, 1), BAD);
        DUE.is("row(1, 3, 1)", x.row(1, 3, 1), BAD);
        DUE.is("row(1, 0, 41)", x.row(1, 0, 41), BAD);
        DUE.is("row(1, 0, MAX)", x.row(1, 0, Integer.MAX_VALUE), BAD);
        DUE.is("row(8, 0, -1): BAD is ahead of SIZE", x.row(8, 0, -1), BAD);
        DUE.is("row(1, 3, -1): BAD is ahead of SIZE", x.row(1, 3, -1), BAD);
        DUE.is("row(1, 0, -1)", x.row(1, 0, -1), SIZE);
        DUE.is("row(1, 0, MIN)", x.row(1, 0, Integer.MIN_VALUE), SIZE);
        DUE.is("count(0): nothing more is there", x.count(0), 2);

        x.row(2, 2, 3);
        x.set(2, 0, 77);
        DUE.is("row(2, 2, -3): refused", x.row(2, 2, -3), SIZE);
        DUE.is("set(2, 2, 5): the row stayed", x.set(2, 2, 5), 5);
        DUE.is("row(2, 0, 4): in place of what was there", x.row(2, 0, 4), 4);
        DUE.is("count(0)", x.count(0), 3);
        DUE.is("set(2, 3, 300): of the new lane", x.set(2, 3, 300), 44);
        zeroAtFirst();
    }

    /** ITEMS are seen only by what they fit, so a guest that is not hired tells a row of 0. */
    private static void zeroAtFirst() {
        TearGuests x = Due.at("w1,0;a1,9,1;");
        x.hire(0, 0);
        x.row(0, 2, 12);
        for (int i = 0; i < 12; i++) {
            x.set(0, i, 5);
        }
        DUE.is("fits: a row of 5", x.fits(0, 0, 0, 12, 0), 0);
        x.row(0, 2, 12);
        DUE.is("fits: made anew, it is 0", x.fits(0, 0, 0, 12, 0), 62);
    }

    private static void set() {
        DUE.promise(3);
        TearGuests x = new TearGuests();
        x.row(0, 0, 2);
        x.row(1, 1, 2);
        x.row(2, 2, 2);
        DUE.is("set(0, 0, 127)", x.set(0, 0, 127), 127);
        DUE.is("set(0, 0, 128)", x.set(0, 0, 128), -128);
        DUE.is("set(0, 1, 256)", x.set(0, 1, 256), 0);
        DUE.is("set(0, 1, -129)", x.set(0, 1, -129), 127);
        DUE.is("set(1, 0, 32767)", x.set(1, 0, 32767), 32767);
        DUE.is("set(1, 0, 32768)", x.set(1, 0, 32768), -32768);
        DUE.is("set(1, 1, 65536)", x.set(1, 1, 65536), 0);
        DUE.is("set(2, 0, MIN)", x.set(2, 0, Integer.MIN_VALUE), Integer.MIN_VALUE);
        DUE.is("set(2, 1, MAX)", x.set(2, 1, Integer.MAX_VALUE), Integer.MAX_VALUE);
        DUE.is("set(8, 0, 0)", x.set(8, 0, 0), BAD);
        DUE.is("set(-1, 0, 0)", x.set(-1, 0, 0), BAD);
        DUE.is("set(3, 9, 0): NULL is ahead of PLACE", x.set(3, 9, 0), NULL);
        DUE.is("set(0, 2, 0)", x.set(0, 2, 0), PLACE);
        DUE.is("set(0, -1, 0)", x.set(0, -1, 0), PLACE);
        DUE.is("set(0, MAX, 0)", x.set(0, Integer.MAX_VALUE, 0), PLACE);
        x.row(4, 2, 0);
        DUE.is("set(4, 0, 0): a row without items", x.set(4, 0, 0), PLACE);
    }

    private static void copy() {
        DUE.promise(4);
        TearGuests x = Due.at("w1,0;a3,99,1;");
        x.row(0, 2, 5);
        int[] told = {3, 3, 3, 1, 2};
        for (int i = 0; i < 5; i++) {
            x.set(0, i, told[i]);
        }
        DUE.is("fits: 3 3 3 is told", x.fits(0, 0, 0, 3, 1), 8);
        DUE.is("copy(0, 0, 0, 2, 3): ends overlap", x.copy(0, 0, 0, 2, 3), 3);
        DUE.is("fits: 3 3 3 3 3, as they were ahead", x.fits(0, 0, 0, 5, 1), 8);
        x.set(0, 0, 1);
        DUE.is("copy(0, 1, 0, 0, 4)", x.copy(0, 1, 0, 0, 4), 4);
        DUE.is("fits: overlapping the other way", x.fits(0, 0, 0, 5, 1), 8);
        x.row(1, 2, 4);
        DUE.is("copy(0, 0, 1, 1, 2)", x.copy(0, 0, 1, 1, 2), 2);
        DUE.is("fits: from 1 on", x.fits(0, 1, 1, 2, 1), 8);
        DUE.is("fits: item 3 stayed 0", x.fits(0, 1, 3, 1, 1), 1);
        DUE.is("copy(0, 5, 1, 4, 0): nothing, at the ends", x.copy(0, 5, 1, 4, 0), 0);
        copyRefused(x);
    }

    private static void copyRefused(TearGuests x) {
        x.row(2, 1, 4);
        DUE.is("copy(8, ..)", x.copy(8, 0, 0, 0, 1), BAD);
        DUE.is("copy(.., -1, ..)", x.copy(0, 0, -1, 0, 1), BAD);
        DUE.is("copy(8, .. 6): BAD is ahead of NULL", x.copy(8, 0, 6, 0, 1), BAD);
        DUE.is("copy: from a missing one", x.copy(6, 0, 0, 0, 1), NULL);
        DUE.is("copy: to a missing one", x.copy(0, 0, 6, 0, 1), NULL);
        DUE.is("copy: NULL is ahead of PLACE", x.copy(0, 99, 6, 0, 1), NULL);
        DUE.is("copy: two lanes", x.copy(0, 0, 2, 0, 1), STORE);
        DUE.is("copy: STORE is ahead of PLACE", x.copy(0, 9, 2, 0, 1), STORE);
        DUE.is("copy: two lanes, no items", x.copy(0, 0, 2, 0, 0), STORE);
        DUE.is("copy: i below 0", x.copy(0, -1, 1, 0, 1), PLACE);
        DUE.is("copy: j below 0", x.copy(0, 0, 1, -1, 1), PLACE);
        DUE.is("copy: n below 0", x.copy(0, 0, 1, 0, -1), PLACE);
        DUE.is("copy: beyond the first's end", x.copy(0, 2, 1, 0, 4), PLACE);
        DUE.is("copy: beyond the other's end", x.copy(0, 0, 1, 2, 3), PLACE);
        DUE.is("copy: i beyond an end, no items", x.copy(0, 6, 1, 0, 0), PLACE);
        DUE.is("copy: i and n beyond an int", x.copy(0, 3, 1, 0, Integer.MAX_VALUE), PLACE);
        DUE.is("copy: j and n beyond an int", x.copy(0, 0, 1, Integer.MAX_VALUE, 2), PLACE);
        DUE.is("copy: all of it stayed", x.fits(0, 0, 0, 5, 1), 8);
    }

    private static void drop() {
        DUE.promise(5);
        TearGuests x = new TearGuests();
        x.row(3, 1, 17);
        x.row(4, 1, 0);
        DUE.is("drop(3)", x.drop(3), 17);
        DUE.is("drop(3) again", x.drop(3), NULL);
        DUE.is("drop(4)", x.drop(4), 0);
        DUE.is("drop(8)", x.drop(8), BAD);
        DUE.is("drop(-1)", x.drop(-1), BAD);
        DUE.is("count(0)", x.count(0), 0);
        DUE.is("set(3, 0, 1): it is missing", x.set(3, 0, 1), NULL);
        DUE.is("row(3, 0, 2): there again", x.row(3, 0, 2), 2);
        DUE.is("count(0)", x.count(0), 1);
    }

    private static void status() {
        DUE.promise(33);
        TearGuests x = new TearGuests();
        DUE.is("status() at first", x.status(), 0);
        x.row(0, 0, -1);
        DUE.is("status() after SIZE", x.status(), 4);
        x.row(9, 0, -1);
        x.set(9, 0, 0);
        x.copy(9, 0, 0, 0, 0);
        x.drop(-1);
        x.fits(0, 0, 0, 1, 0);
        x.as(0, 0);
        DUE.is("status(): BAD leaves it", x.status(), 4);
        x.feed('w');
        x.wedding();
        x.minutes(1);
        x.image(0);
        x.trace(0);
        DUE.is("status(): calls without a row leave it", x.status(), 4);
        x.row(0, 0, 3);
        DUE.is("status(): none found by row", x.status(), 0);
        x.set(0, 3, 0);
        DUE.is("status() after PLACE", x.status(), 2);
        x.set(0, 0, 0);
        DUE.is("status(): none found by set", x.status(), 0);
        x.row(1, 1, 3);
        x.copy(0, 0, 1, 0, 1);
        DUE.is("status() after STORE", x.status(), 5);
        x.copy(0, 0, 0, 0, 1);
        DUE.is("status(): none found by copy", x.status(), 0);
        x.drop(2);
        DUE.is("status() after NULL", x.status(), 1);
        x.drop(1);
        DUE.is("status(): none found by drop", x.status(), 0);
        statusOfGuests(x);
    }

    private static void statusOfGuests(TearGuests x) {
        Due.read(x, "w1,0;m1,9,1;");
        x.as(0, 1);
        DUE.is("status() after KIND", x.status(), 3);
        x.as(0, 6);
        DUE.is("status(): a kind that is none is BAD", x.status(), 3);
        x.as(0, 4);
        DUE.is("status(): none found by as", x.status(), 0);
        x.fits(0, 5, 0, 1, 0);
        DUE.is("status(): NULL by fits", x.status(), 1);
        x.fits(0, 0, 0, 13, 0);
        DUE.is("status(): fits is BAD", x.status(), 1);
        x.fits(0, 0, 3, 1, 0);
        DUE.is("status(): PLACE by fits", x.status(), 2);
        x.fits(0, 0, 0, 3, 0);
        DUE.is("status(): none found by fits", x.status(), 0);
    }
}
