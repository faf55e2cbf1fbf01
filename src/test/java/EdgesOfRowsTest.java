import java.util.List;

/** Promises 1 to 5 and 33: each sentence that names an edge of a new object, of rows, or of what was found. */
public final class EdgesOfRowsTest {
    private static final int BAD = TearGuests.BAD, STATE = TearGuests.STATE, NONE = TearGuests.NONE;
    private static final int NULL = -1000011, PLACE = -1000012, SIZE = -1000014, STORE = -1000015;
    /** Guest 0 is one by whom ITEMS can be seen. */
    private static final String SEER = "w99,0;a9,99,0;";
    private static final Due DUE = new Due();

    public static void main(String[] args) {
        noWedding();
        lastCall();
        missingAtFirst();
        rowsByNumber();
        lanes();
        howManyItems();
        zeroAtFirst();
        inPlaceOfWhatIsThere();
        fewerThanNone();
        lowestBits();
        setPlaces();
        setRefused();
        copyAsTheyWere();
        copyPlaces();
        copyPlacesFarOff();
        copyRefused();
        copyKeepsLanes();
        dropped();
        statusNumbers();
        statusOfRefused();
        statusOfOtherCalls();
        DUE.end();
    }

    private static void noWedding() {
        DUE.sentence(1, "No WEDDING.");
        List<Due.Call> withoutState = List.of(x -> x.minutes(1), x -> x.hymns(0), x -> x.undo(), x -> x.bottle(0, 0), x -> x.filled(),
            x -> x.dry(0), x -> x.hiring(1, 0), x -> x.order(1, 0), x -> x.change(1, 0), x -> x.away(0, 0, 0),
            x -> x.drawn(0, 1, 0), x -> x.image(0), x -> x.restore(0));
        for (int c = 0; c < withoutState.size(); c++) {
            DUE.is("call " + c + " that wants a wedding", withoutState.get(c).on(new TearGuests()), STATE);
        }
        List<Due.Call> withoutGuest = List.of(x -> x.hire(0, 0), x -> x.hire(0, 1), x -> x.swap(0, 1), x -> x.guest(0, 0),
            x -> x.seat(0), x -> x.ahead(0, 0, 0), x -> x.kind(0), x -> x.as(0, 0), x -> x.ask(0, 0));
        for (int c = 0; c < withoutGuest.size(); c++) {
            DUE.is("call " + c + " that wants a guest", withoutGuest.get(c).on(new TearGuests()), BAD);
        }
        TearGuests x = new TearGuests();
        x.row(0, 0, 1);
        DUE.is("fits(0, 0, 0, 1, 0)", x.fits(0, 0, 0, 1, 0), BAD);
        DUE.is("trace(0)", x.trace(0), NONE);
        DUE.is("fault()", x.fault(), 0);
        for (int what = 1; what <= 9; what++) {
            DUE.is("count(" + what + ")", x.count(what), 0);
        }
    }

    private static void lastCall() {
        DUE.sentence(1, "An object is used for at most 512 calls after it has been made");
        TearGuests x = Due.at("w9,0;a1,9,1;");
        // Thirteen calls are behind it; the last of 512 is told as all others.
        for (int call = 14; call <= 511; call++) {
            DUE.is("hymns, call " + call, x.hymns(call % 16), call == 14 ? 0 : (call - 1) % 16);
        }
        DUE.is("hymns, call 512", x.hymns(0), 511 % 16);
    }

    private static void missingAtFirst() {
        DUE.sentence(2, "ROWS 0 .. 7 are missing (at first)");
        TearGuests x = Due.at(SEER);
        DUE.is("count(0)", x.count(0), 0);
        for (int r = 0; r <= 7; r++) {
            DUE.is("set(" + r + ", 0, 0)", x.set(r, 0, 0), NULL);
            DUE.is("drop(" + r + ")", x.drop(r), NULL);
            DUE.is("copy(" + r + ", 0, " + r + ", 0, 0)", x.copy(r, 0, r, 0, 0), NULL);
            DUE.is("fits(0, " + r + ", 0, 1, 0)", x.fits(0, r, 0, 1, 0), NULL);
        }
    }

    private static void rowsByNumber() {
        DUE.sentence(2, "ROWS 0 .. 7");
        TearGuests x = Due.at(SEER);
        for (int r = 0; r <= 7; r++) {
            DUE.is("row(" + r + ", 0, " + r + ")", x.row(r, 0, r), r);
            DUE.is("count(0)", x.count(0), r + 1);
        }
        for (int r : new int[] {-1, 8, 9, Due.FAR[0], Due.FAR[1], Due.FAR[2], Due.FAR[3], Due.FAR[4], Due.FAR[5]}) {
            DUE.is("row(" + r + ", 0, 1)", x.row(r, 0, 1), BAD);
            DUE.is("set(" + r + ", 0, 1)", x.set(r, 0, 1), BAD);
            DUE.is("copy(" + r + ", 0, 1, 0, 0)", x.copy(r, 0, 1, 0, 0), BAD);
            DUE.is("copy(1, 0, " + r + ", 0, 0)", x.copy(1, 0, r, 0, 0), BAD);
            DUE.is("drop(" + r + ")", x.drop(r), BAD);
            DUE.is("fits(0, " + r + ", 0, 1, 0)", x.fits(0, r, 0, 1, 0), BAD);
        }
        for (int r = 0; r <= 7; r++) {
            DUE.is("drop(" + r + "): each by itself", x.drop(r), r);
        }
    }

    private static void lanes() {
        DUE.sentence(2, "BAD: ROW, LANE");
        TearGuests x = new TearGuests();
        for (int lane = 0; lane <= 2; lane++) {
            DUE.is("row(0, " + lane + ", 1)", x.row(0, lane, 1), 1);
        }
        DUE.is("row(1, -1, 1)", x.row(1, -1, 1), BAD);
        DUE.is("row(1, 3, 1)", x.row(1, 3, 1), BAD);
        for (int lane : Due.FAR) {
            DUE.is("row(1, " + lane + ", 1)", x.row(1, lane, 1), BAD);
        }
        DUE.is("count(0)", x.count(0), 1);
    }

    private static void howManyItems() {
        DUE.sentence(2, "BAD: ROW, LANE, n above 40");
        for (int n : new int[] {0, 1, 2, 39, 40}) {
            TearGuests x = new TearGuests();
            DUE.is("row(5, 1, " + n + ")", x.row(5, 1, n), n);
            DUE.is("set(5, " + n + ", 7): one beyond", x.set(5, n, 7), PLACE);
            if (n > 0) {
                DUE.is("set(5, " + (n - 1) + ", 7): the last", x.set(5, n - 1, 7), 7);
            }
            DUE.is("drop(5)", x.drop(5), n);
        }
        TearGuests x = new TearGuests();
        DUE.is("row(0, 0, 41)", x.row(0, 0, 41), BAD);
        DUE.is("row(0, 0, 2^30)", x.row(0, 0, 1 << 30), BAD);
        DUE.is("row(0, 0, MAX)", x.row(0, 0, Integer.MAX_VALUE), BAD);
        DUE.is("count(0)", x.count(0), 0);
    }

    private static void zeroAtFirst() {
        DUE.sentence(2, "0 to 40 ITEMS, 0 at first");
        for (int lane = 0; lane <= 2; lane++) {
            TearGuests x = Due.at(SEER);
            x.row(7, lane, 40);
            for (int i = 0; i < 40; i++) {
                DUE.is("item " + i + " in lane " + lane, Due.item(x, 7, i), 0);
            }
            for (int i = 0; i < 40; i++) {
                x.set(7, i, 3);
            }
            x.drop(7);
            x.row(7, lane, 40);
            for (int i = 0; i < 40; i++) {
                DUE.is("item " + i + ", dropped and made anew", Due.item(x, 7, i), 0);
            }
        }
    }

    private static void inPlaceOfWhatIsThere() {
        DUE.sentence(2, "A ROW of a LANE with n ITEMS, in place of what is there: n.");
        TearGuests x = Due.at(SEER);
        x.row(0, 2, 6);
        for (int i = 0; i < 6; i++) {
            x.set(0, i, 9 - i);
        }
        DUE.is("row(0, 0, 3): fewer", x.row(0, 0, 3), 3);
        DUE.is("set(0, 3, 1): no longer there", x.set(0, 3, 1), PLACE);
        DUE.is("set(0, 2, 255): of the new lane", x.set(0, 2, 255), -1);
        DUE.is("row(0, 1, 6): more", x.row(0, 1, 6), 6);
        for (int i = 0; i < 6; i++) {
            DUE.is("item " + i, Due.item(x, 0, i), 0);
        }
        DUE.is("row(0, 1, 0): none", x.row(0, 1, 0), 0);
        DUE.is("set(0, 0, 1)", x.set(0, 0, 1), PLACE);
        DUE.is("count(0): a row without items is there", x.count(0), 1);
    }

    private static void fewerThanNone() {
        DUE.sentence(2, "SIZE (fewer than none)");
        TearGuests x = Due.at(SEER);
        x.row(0, 2, 2);
        x.set(0, 1, 6);
        for (int n : new int[] {-1, -2, -41, Integer.MIN_VALUE}) {
            DUE.is("row(0, 0, " + n + ")", x.row(0, 0, n), SIZE);
            DUE.is("status()", x.status(), 4);
            DUE.is("row(1, 0, " + n + ")", x.row(1, 0, n), SIZE);
            DUE.is("row(8, 0, " + n + "): BAD is ahead", x.row(8, 0, n), BAD);
            DUE.is("row(-1, 0, " + n + "): BAD is ahead", x.row(-1, 0, n), BAD);
            DUE.is("row(0, 3, " + n + "): BAD is ahead", x.row(0, 3, n), BAD);
            DUE.is("row(0, -1, " + n + "): BAD is ahead", x.row(0, -1, n), BAD);
        }
        DUE.is("count(0): none is there that was not", x.count(0), 1);
        DUE.is("item 1: what was there stays", Due.item(x, 0, 1), 6);
        DUE.is("set(0, 0, 70000): and its lane", x.set(0, 0, 70000), 70000);
    }

    private static void lowestBits() {
        DUE.sentence(3, "ITEM i becomes v, its lowest bits, as many as the LANE has: what it is then.");
        int[][] bytes = {{0, 0}, {127, 127}, {128, -128}, {129, -127}, {255, -1}, {256, 0}, {257, 1}, {-1, -1}, {-128, -128}, {-129, 127},
            {-256, 0}, {-257, -1}, {32767, -1}, {Integer.MAX_VALUE, -1}, {Integer.MIN_VALUE, 0}, {Integer.MIN_VALUE + 128, -128}};
        lane(0, bytes);
        int[][] shorts = {{255, 255}, {32767, 32767}, {32768, -32768}, {65535, -1}, {65536, 0}, {65537, 1}, {-32768, -32768}, {-32769, 32767},
            {-65536, 0}, {-65537, -1}, {Integer.MAX_VALUE, -1}, {Integer.MIN_VALUE, 0}};
        lane(1, shorts);
        int[][] ints = {{32768, 32768}, {65536, 65536}, {Integer.MAX_VALUE, Integer.MAX_VALUE}, {Integer.MIN_VALUE, Integer.MIN_VALUE},
            {-1, -1}};
        lane(2, ints);
        TearGuests x = Due.at(SEER);
        x.row(0, 0, 1);
        x.row(1, 1, 1);
        x.set(0, 0, 256 + 5);
        DUE.is("the item is what was answered, bytes", Due.item(x, 0, 0), 5);
        x.set(1, 0, 3 * 65536 + 4);
        DUE.is("the item is what was answered, shorts", Due.item(x, 1, 0), 4);
    }

    private static void lane(int lane, int[][] due) {
        TearGuests x = new TearGuests();
        x.row(3, lane, 1);
        for (int[] of : due) {
            DUE.is("lane " + lane + ": set(3, 0, " + of[0] + ")", x.set(3, 0, of[0]), of[1]);
        }
    }

    private static void setPlaces() {
        DUE.sentence(3, "PLACE (no such place of a ROW)");
        TearGuests x = Due.at(SEER);
        x.row(0, 0, 3);
        DUE.is("set(0, 0, 1): the first", x.set(0, 0, 1), 1);
        DUE.is("set(0, 2, 2): the last", x.set(0, 2, 2), 2);
        DUE.is("set(0, 3, 9)", x.set(0, 3, 9), PLACE);
        DUE.is("set(0, -1, 9)", x.set(0, -1, 9), PLACE);
        for (int i : Due.FAR) {
            DUE.is("set(0, " + i + ", 9)", x.set(0, i, 9), PLACE);
            DUE.is("status()", x.status(), 2);
        }
        DUE.is("item 0", Due.item(x, 0, 0), 1);
        DUE.is("item 1", Due.item(x, 0, 1), 0);
        DUE.is("item 2", Due.item(x, 0, 2), 2);
    }

    private static void setRefused() {
        DUE.sentence(3, "BAD: ROW; NULL; PLACE.");
        TearGuests x = new TearGuests();
        DUE.is("set(8, -1, 0): BAD ahead of all", x.set(8, -1, 0), BAD);
        DUE.is("set(0, -1, 0): NULL ahead of PLACE", x.set(0, -1, 0), NULL);
        DUE.is("status()", x.status(), 1);
        x.row(0, 0, 0);
        DUE.is("set(0, -1, 0)", x.set(0, -1, 0), PLACE);
        DUE.is("set(0, 0, 0): there is no item", x.set(0, 0, 0), PLACE);
    }

    /** Every copy within one row of six items, held against what was there ahead of it. */
    private static void copyAsTheyWere() {
        DUE.sentence(4, "n ITEMS of a from i on come to b from j on, as they were ahead: n.");
        for (int i = 0; i <= 6; i++) {
            for (int j = 0; j <= 6; j++) {
                for (int n = 0; n <= 6 - Math.max(i, j); n++) {
                    TearGuests x = counted(6);
                    DUE.is("copy(0, " + i + ", 0, " + j + ", " + n + ")", x.copy(0, i, 0, j, n), n);
                    for (int k = 0; k < 6; k++) {
                        int due = k >= j && k < j + n ? k - j + i + 1 : k + 1;
                        DUE.is("copy(0, " + i + ", 0, " + j + ", " + n + "): item " + k, Due.item(x, 0, k), due);
                    }
                }
            }
        }
        TearGuests x = counted(6);
        x.row(1, 2, 4);
        DUE.is("copy(0, 2, 1, 0, 4): to another", x.copy(0, 2, 1, 0, 4), 4);
        DUE.is("item 0 of the other", Due.item(x, 1, 0), 3);
        DUE.is("item 3 of the other", Due.item(x, 1, 3), 6);
        DUE.is("item 2 stays where it was", Due.item(x, 0, 2), 3);
        TearGuests all = counted(9);
        all.row(1, 2, 40);
        all.copy(0, 0, 1, 31, 9);
        DUE.is("copy(1, 0, 1, 0, 40): all of the longest", all.copy(1, 0, 1, 0, 40), 40);
        DUE.is("item 39", Due.item(all, 1, 39), 9);
    }

    /** A row 0 of ints 1, 2, .. */
    private static TearGuests counted(int items) {
        TearGuests x = Due.at(SEER);
        x.row(0, 2, items);
        for (int i = 0; i < items; i++) {
            x.set(0, i, i + 1);
        }
        return x;
    }

    private static void copyPlaces() {
        DUE.sentence(4, "PLACE (i, j, n below 0, or beyond an end).");
        for (int i = -2; i <= 6; i++) {
            for (int j = -2; j <= 6; j++) {
                TearGuests x = new TearGuests();
                x.row(2, 1, 5);
                x.row(3, 1, 4);
                for (int n = -2; n <= 6; n++) {
                    boolean there = i >= 0 && j >= 0 && n >= 0 && i + n <= 5 && j + n <= 4;
                    DUE.is("copy(2, " + i + ", 3, " + j + ", " + n + ")", x.copy(2, i, 3, j, n), there ? n : PLACE);
                    DUE.is("status()", x.status(), there ? 0 : 2);
                }
            }
        }
        TearGuests none = new TearGuests();
        none.row(0, 0, 0);
        DUE.is("copy(0, 0, 0, 0, 0): of a row without items", none.copy(0, 0, 0, 0, 0), 0);
        DUE.is("copy(0, 0, 0, 0, 1)", none.copy(0, 0, 0, 0, 1), PLACE);
        DUE.is("copy(0, 1, 0, 0, 0)", none.copy(0, 1, 0, 0, 0), PLACE);
    }

    /** Sums of these would come round to numbers that look fine. */
    private static void copyPlacesFarOff() {
        DUE.sentence(4, "PLACE (i, j, n below 0, or beyond an end).");
        for (int far : Due.FAR) {
            TearGuests x = counted(6);
            for (int k : new int[] {0, 1, 5, 6}) {
                DUE.is("copy: i " + far, x.copy(0, far, 0, k, 1), PLACE);
                DUE.is("copy: j " + far, x.copy(0, k, 0, far, 1), PLACE);
                DUE.is("copy: n " + far, x.copy(0, k, 0, 0, far), PLACE);
                DUE.is("copy: n " + far, x.copy(0, 0, 0, k, far), PLACE);
                DUE.is("copy: i and n " + far, x.copy(0, far, 0, k, far), PLACE);
                DUE.is("copy: j and n " + far, x.copy(0, k, 0, far, far), PLACE);
                DUE.is("copy: i, n come round", x.copy(0, Integer.MAX_VALUE, 0, k, Integer.MAX_VALUE), PLACE);
                DUE.is("copy: i and j " + far + ", no items", x.copy(0, far, 0, far, 0), PLACE);
            }
            for (int k = 0; k < 6; k++) {
                DUE.is("item " + k, Due.item(x, 0, k), k + 1);
            }
        }
    }

    private static void copyRefused() {
        DUE.sentence(4, "BAD: ROWS; NULL; STORE; PLACE");
        TearGuests x = new TearGuests();
        x.row(0, 0, 4);
        x.row(1, 1, 4);
        x.row(2, 2, 4);
        DUE.is("BAD ahead of NULL", x.copy(8, 0, 5, 0, 1), BAD);
        DUE.is("BAD ahead of NULL, the other", x.copy(5, 0, -1, 0, 1), BAD);
        DUE.is("BAD ahead of PLACE", x.copy(0, 9, 8, 9, -1), BAD);
        DUE.is("NULL ahead of PLACE", x.copy(0, 9, 5, 9, -1), NULL);
        DUE.is("NULL ahead of PLACE, the first", x.copy(5, 9, 0, 9, -1), NULL);
        DUE.is("both missing", x.copy(5, 0, 6, 0, 0), NULL);
        DUE.is("one missing with itself", x.copy(5, 0, 5, 0, 0), NULL);
        DUE.is("status()", x.status(), 1);
        for (int a = 0; a <= 2; a++) {
            for (int b = 0; b <= 2; b++) {
                DUE.is("lanes " + a + " and " + b, x.copy(a, 0, b, 0, 1), a == b ? 1 : STORE);
                DUE.is("status()", x.status(), a == b ? 0 : 5);
                DUE.is("lanes " + a + " and " + b + ", beyond an end", x.copy(a, 3, b, 0, 2), a == b ? PLACE : STORE);
                DUE.is("lanes " + a + " and " + b + ", n below 0", x.copy(a, 0, b, 0, -1), a == b ? PLACE : STORE);
                DUE.is("lanes " + a + " and " + b + ", nothing", x.copy(a, 0, b, 0, 0), a == b ? 0 : STORE);
            }
        }
    }

    private static void copyKeepsLanes() {
        DUE.sentence(4, "STORE (ROWS of two LANES)");
        TearGuests x = new TearGuests();
        x.row(0, 2, 2);
        x.row(1, 2, 2);
        DUE.is("two rows of one lane", x.copy(0, 0, 1, 0, 2), 2);
        x.row(1, 0, 2);
        DUE.is("the lane is that of the row made last", x.copy(0, 0, 1, 0, 2), STORE);
        x.row(0, 0, 2);
        DUE.is("both made anew", x.copy(0, 0, 1, 0, 2), 2);
    }

    private static void dropped() {
        DUE.sentence(5, "A ROW is missing from now on: how many ITEMS it had. BAD; NULL.");
        for (int n = 0; n <= 40; n++) {
            TearGuests x = new TearGuests();
            x.row(7, n % 3, n);
            x.row(6, 0, 1);
            DUE.is("drop(7)", x.drop(7), n);
            DUE.is("status()", x.status(), 0);
            DUE.is("drop(7) again", x.drop(7), NULL);
            DUE.is("status()", x.status(), 1);
            DUE.is("set(7, 0, 0)", x.set(7, 0, 0), NULL);
            DUE.is("copy(7, 0, 6, 0, 0)", x.copy(7, 0, 6, 0, 0), NULL);
            DUE.is("copy(6, 0, 7, 0, 0)", x.copy(6, 0, 7, 0, 0), NULL);
            DUE.is("count(0): the other stays", x.count(0), 1);
        }
    }

    private static void statusNumbers() {
        DUE.sentence(33, "the number of its FINDING; 0: it had none, or there was none.");
        TearGuests x = Due.at("w9,0;m1,9,1;");
        DUE.is("status(): there was none", x.status(), 0);
        Due.Call[] found = {y -> y.drop(4), y -> y.set(0, 5, 0), y -> y.as(0, 5), y -> y.row(0, 0, -7), y -> y.copy(0, 0, 1, 0, 0),
            y -> y.fits(0, 4, 0, 1, 0), y -> y.fits(0, 0, 5, 1, 0)};
        int[] numbers = {1, 2, 3, 4, 5, 1, 2};
        Due.Call[] fine = {y -> y.row(0, 0, 5), y -> y.set(0, 0, 0), y -> y.copy(0, 0, 0, 0, 5), y -> y.as(0, 4), y -> y.fits(0, 0, 0, 5, 0),
            y -> y.row(2, 0, 0) + y.drop(2)};
        x.row(0, 0, 5);
        x.row(1, 1, 5);
        for (int f = 0; f < found.length; f++) {
            for (int c = 0; c < fine.length; c++) {
                DUE.is("what is found, " + f, found[f].on(x), -1000010 - numbers[f]);
                DUE.is("status() of what is found, " + f, x.status(), numbers[f]);
                DUE.is("status() once more", x.status(), numbers[f]);
                fine[c].on(x);
                DUE.is("status() of what is fine, " + c, x.status(), 0);
            }
        }
    }

    private static void statusOfRefused() {
        DUE.sentence(33, "Of the latest call with a ROW, or as(), that was not BAD, STATE, FULL");
        List<Due.Call> bad = List.of(x -> x.row(8, 0, 1), x -> x.row(0, 3, 1), x -> x.row(0, 0, 41), x -> x.row(8, 0, -1), x -> x.set(8, 0, 0),
            x -> x.copy(8, 0, 0, 0, 0), x -> x.copy(0, 0, -1, 0, 0), x -> x.drop(8), x -> x.fits(1, 0, 0, 1, 0), x -> x.fits(0, 8, 0, 1, 0),
            x -> x.fits(0, 0, 0, 0, 0), x -> x.fits(0, 0, 0, 13, 0), x -> x.fits(0, 0, 0, 1, 5), x -> x.as(1, 0), x -> x.as(0, 6));
        for (int c = 0; c < bad.size(); c++) {
            TearGuests x = found();
            DUE.is("BAD call " + c, bad.get(c).on(x), BAD);
            DUE.is("status() behind BAD call " + c, x.status(), 5);
            x.row(0, 0, 3);
            bad.get(c).on(x);
            DUE.is("status(): none, behind BAD call " + c, x.status(), 0);
        }
    }

    /** Two rows of two lanes, and STORE was found last. */
    private static TearGuests found() {
        TearGuests x = Due.at("w9,0;a1,9,1;");
        x.row(0, 0, 3);
        x.row(1, 1, 3);
        x.copy(0, 0, 1, 0, 1);
        return x;
    }

    private static void statusOfOtherCalls() {
        DUE.sentence(33, "Of the latest call with a ROW, or as()");
        List<Due.Call> others = List.of(x -> x.feed(1), x -> x.feed(256), x -> x.wedding(), x -> Due.read(x, "w1,0;m1,1,1;m1,1,1;"), x -> x.fault(),
            x -> x.minutes(1), x -> x.minutes(0), x -> x.hire(0, 0), x -> x.hire(0, 1), x -> x.hire(9, 0), x -> x.swap(0, 0), x -> x.hymns(3),
            x -> x.hymns(16), x -> x.undo(), x -> x.guest(0, 0), x -> x.guest(9, 0), x -> x.seat(0), x -> x.seat(9), x -> x.ahead(0, 1, 0),
            x -> x.ahead(9, 1, 0), x -> x.bottle(1, 0), x -> x.bottle(61, 0), x -> x.filled(), x -> x.dry(0), x -> x.dry(2),
            x -> x.hiring(1, 0), x -> x.hiring(0, 0), x -> x.order(1, 0), x -> x.order(0, 0), x -> x.change(1, 0), x -> x.change(0, 0),
            x -> x.away(1, 1, 0), x -> x.away(1, 11, 0), x -> x.drawn(1, 1, 0), x -> x.drawn(1, 0, 0), x -> x.image(0), x -> x.image(2),
            x -> x.restore(0), x -> x.restore(2), x -> x.image(0) + x.restore(0), x -> x.kind(0), x -> x.kind(9), x -> x.ask(0, 0),
            x -> x.ask(0, 2), x -> x.trace(0), x -> x.trace(-1), x -> x.count(0), x -> x.count(10), x -> x.status());
        for (int c = 0; c < others.size(); c++) {
            TearGuests x = found();
            others.get(c).on(x);
            DUE.is("status() behind call " + c + " without a row", x.status(), 5);
        }
    }
}
