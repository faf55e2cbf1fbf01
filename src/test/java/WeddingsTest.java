/** Promises 6 to 15 and 32: the tape, weddings, acts and what they leave. */
public final class WeddingsTest {
    private static final int BAD = TearGuests.BAD, STATE = TearGuests.STATE, FULL = TearGuests.FULL;
    private static final Due DUE = new Due();

    public static void main(String[] args) {
        feed();
        wedding();
        faults();
        weddingAnew();
        minutes();
        weeping();
        minutesToTheEnd();
        hire();
        swap();
        hymns();
        undo();
        guest();
        seat();
        count();
        DUE.end();
    }

    private static void feed() {
        DUE.promise(6);
        TearGuests x = new TearGuests();
        DUE.is("feed(-1)", x.feed(-1), BAD);
        DUE.is("feed(256)", x.feed(256), BAD);
        DUE.is("feed(0)", x.feed(0), 1);
        DUE.is("feed(255)", x.feed(255), 2);
        for (int n = 3; n <= 110; n++) {
            DUE.is("feed, " + n, x.feed('a'), n);
        }
        DUE.is("feed: the tape is full", x.feed('a'), FULL);
        DUE.is("feed: BAD is ahead of FULL", x.feed(256), BAD);
        DUE.is("count(9)", x.count(9), 110);
        DUE.is("wedding()", x.wedding(), -1000100);
        DUE.is("count(9): the tape is empty then", x.count(9), 0);
        DUE.is("feed: room again", x.feed('w'), 1);
    }

    private static void wedding() {
        DUE.promise(7);
        DUE.is("one guest", Due.read(new TearGuests(), "w1,0;a0,0,0;"), 1);
        TearGuests x = new TearGuests();
        DUE.is("seven guests", Due.read(x, "w99,15;a9,99,9;r8,1,0;c7,2,1;m6,3,2;o5,4,3;a4,5,4;r3,6,5;"), 7);
        int[] kinds = {1, 2, 3, 4, 5, 1, 2};
        for (int g = 0; g < 7; g++) {
            DUE.is("kind(" + g + ")", x.kind(g), kinds[g]);
            DUE.is("START of " + g, x.guest(g, 0), 9 - g);
            DUE.is("WELL of " + g, x.guest(g, 1), g == 0 ? 99 : g);
            DUE.is("FEE of " + g, x.guest(g, 2), g == 0 ? 9 : g - 1);
            DUE.is("SEAT of " + g, x.guest(g, 3), g);
            DUE.is("HIRED " + g, x.guest(g, 4), 1);
            DUE.is("LAST of " + g, x.guest(g, 5), 0);
        }
        DUE.is("NEED", x.count(3), 99);
        DUE.is("HYMNS", x.count(4), 15);
        DUE.is("a number may have a 0 ahead", Due.read(x, "w01,07;a03,09,05;"), 1);
        DUE.is("START 03", x.guest(0, 0), 3);
        DUE.is("WELL 09", x.guest(0, 1), 9);
        DUE.is("FEE 05", x.guest(0, 2), 5);
        DUE.is("HYMNS 07", x.count(4), 7);
    }

    private static void faults() {
        DUE.promise(8);
        DUE.is("fault() before one", new TearGuests().fault(), 0);
        DUE.is("fault() of a wedding without one", Due.at("w1,0;a0,0,0;").fault(), 0);
        faultAt("", 0, 1);
        faultAt("w", 1, 1);
        faultAt("W1,0;a0,0,0;", 0, 1);
        faultAt(" w1,0;", 0, 1);
        faultAt("1", 0, 1);
        faultAt("w,", 1, 1);
        faultAt("w0,0;a0,0,0;", 1, 2);
        faultAt("w00,0;a0,0,0;", 1, 2);
        faultAt("w100,0;", 1, 1);
        faultAt("w000,0;", 1, 1);
        faultAt("w1111,0;", 1, 1);
        faultAt("w12", 3, 1);
        faultAt("w12;", 3, 1);
        faultAt("w12,", 4, 1);
        faultAt("w12,;", 4, 1);
        faultAt("w12,16;", 4, 2);
        faultAt("w12,99x", 4, 2);
        faultAt("w12,15,", 6, 1);
        faultAt("w12,15;", 7, 1);
        faultAt("w12,15;w", 7, 1);
        faultAt("w12,15;A", 7, 1);
        faultAt("w12,15;5", 7, 1);
        faultAt("w12,15;a", 8, 1);
        faultAt("w12,15;aa", 8, 1);
        faultAt("w12,15;a10,", 8, 2);
        faultAt("w12,15;a1,100,1;", 10, 1);
        faultAt("w12,15;a1,,", 10, 1);
        faultAt("w12,15;a1,99,10;", 13, 2);
        faultAt("w12,15;a1,99,9", 14, 1);
        faultAt("w12,15;a1,99,9,", 14, 1);
        faultAt("w12,15;a1,99,9;;", 15, 1);
        faultAt("w12,15;a1,99,9;\u00ff", 15, 1);
        faultAt("w12,15;a1,99,9;x", 15, 1);
        faultAt("w0,16;", 1, 2);
        faultsBeyondSeven();
    }

    private static void faultsBeyondSeven() {
        String seven = "w1,0;" + "a0,0,0;".repeat(7);
        DUE.is("seven are fine", Due.read(new TearGuests(), seven), 7);
        faultAt(seven + "o", seven.length(), 3);
        faultAt(seven + "a0,0,0;", seven.length(), 3);
        faultAt(seven + "b0,0,0;", seven.length(), 1);
        faultAt(seven + "1", seven.length(), 1);
        faultAt("w1,0;" + "a0,0,0;".repeat(6) + "a0,0,;" + "a0,0,0;", 52, 1);
    }

    private static void faultAt(String text, int place, int number) {
        TearGuests x = Due.at("w5,3;a1,9,1;m2,8,1;");
        x.minutes(1);
        x.swap(0, 1);
        String before = Due.all(x);
        before = before.substring(0, before.length() - 3);
        DUE.is("wedding of \"" + text + "\"", Due.read(x, text), -1000100 - place);
        DUE.is("fault of \"" + text + "\"", x.fault(), number);
        DUE.holds("all stays by \"" + text + "\"", Due.all(x).startsWith(before));
        DUE.is("the tape is empty", x.count(9), 0);
        Due.read(x, "w1,0;a0,0,0;");
        DUE.is("the latest fault stays told", x.fault(), number);
    }

    private static void weddingAnew() {
        DUE.promise(7);
        TearGuests x = Due.at("w5,3;a1,9,1;m2,8,1;a3,3,3;");
        x.minutes(3);
        x.hire(1, 0);
        x.swap(0, 1);
        x.hymns(9);
        DUE.is("a wedding in place of it", Due.read(x, "w6,2;c4,7,2;r1,1,1;"), 2);
        DUE.is("MINUTE", x.count(2), 0);
        DUE.is("NEED", x.count(3), 6);
        DUE.is("HYMNS", x.count(4), 2);
        DUE.is("THE BOTTLE", x.count(5), 0);
        DUE.is("PAID", x.count(6), 0);
        DUE.is("HIRED", x.count(7), 3);
        DUE.is("ACTS", x.count(8), 0);
        DUE.is("undo()", x.undo(), STATE);
        DUE.is("LAST", x.guest(0, 5), 0);
        DUE.is("SEAT", x.guest(0, 3), 0);
        DUE.is("no third guest", x.guest(2, 0), BAD);
        DUE.is("no third seat", x.seat(2), BAD);
    }

    private static void minutes() {
        DUE.promise(9);
        DUE.is("no wedding", new TearGuests().minutes(1), STATE);
        DUE.is("no wedding, ahead of BAD", new TearGuests().minutes(0), STATE);
        TearGuests x = Due.at("w10,1;a2,9,3;");
        DUE.is("minutes(0)", x.minutes(0), BAD);
        DUE.is("minutes(25)", x.minutes(25), BAD);
        DUE.is("minutes(-1)", x.minutes(-1), BAD);
        DUE.is("minutes(1)", x.minutes(1), 2);
        DUE.is("PAID", x.count(6), 6);
        DUE.is("minutes(3)", x.minutes(3), 8);
        DUE.is("minutes(1): no more than the well", x.minutes(1), 9);
        DUE.is("LAST", x.guest(0, 5), 1);
        DUE.is("WELL", x.guest(0, 1), 0);
        DUE.is("PAID", x.count(6), 27);
        DUE.is("minutes(24): dry", x.minutes(24), 9);
        DUE.is("MINUTE", x.count(2), 29);
        DUE.is("LAST", x.guest(0, 5), 0);
    }

    private static void weeping() {
        sheds("two aunts", "w10,0;a1,50,1;a0,50,2;", new int[][] {{1, 0}, {1, 1}, {2, 1}, {2, 1}}, 9, 12);
        sheds("an aunt between", "w1,0;a1,9,0;a0,9,0;a1,9,0;", new int[][] {{1, 0, 1}, {1, 2, 1}, {2, 2, 2}}, 12, 0);
        sheds("a rival by an aunt", "w10,0;a4,50,1;r1,50,2;", new int[][] {{4, 1}, {5, 5}, {5, 6}}, 26, 38);
        sheds("rivals", "w1,0;r1,99,0;r1,99,0;", new int[][] {{1, 1}, {2, 2}, {3, 3}, {4, 4}, {5, 5}, {6, 6}, {7, 7},
            {8, 8}, {9, 9}, {9, 9}}, 108, 0);
        sheds("a rival by nobody", "w1,0;a0,9,1;r0,9,1;", new int[][] {{0, 0}, {0, 0}}, 0, 0);
        sheds("a rival that starts well", "w1,0;a1,9,1;r7,99,1;", new int[][] {{1, 7}, {2, 8}}, 18, 18);
        sheds("a child", "w1,0;c3,20,2;", new int[][] {{3}, {0}, {3}, {0}}, 6, 12);
        sheds("a child by an aunt", "w1,0;c3,20,2;a1,20,0;", new int[][] {{3, 1}, {0, 2}, {4, 1}, {0, 2}}, 13, 14);
        sheds("a man", "w1,4;m7,20,1;", new int[][] {{0}, {0}, {7}, {0}, {0}, {0}, {7}, {0}}, 14, 14);
        sheds("a man at 1 and 3", "w1,10;m7,99,1;a9,0,0;", new int[][] {{0, 0}, {7, 0}, {0, 0}, {7, 0}}, 14, 14);
        sheds("an onion", "w9,1;a5,99,1;o1,99,9;", new int[][] {{5, 3}, {6, 2}, {6, 2}, {6, 2}, {6, 3}}, 17, 29);
        sheds("an onion alone", "w9,1;o9,99,9;", new int[][] {{9}, {2}, {2}}, 0, 0);
        sheds("an onion with little", "w9,0;a9,18,1;o1,3,9;", new int[][] {{9, 2}, {9, 1}, {0, 0}}, 15, 18);
        sheds("what comes in, then what is off", "w9,0;a1,9,1;o0,9,9;a0,1,1;",
            new int[][] {{1, 2, 0}, {2, 2, 1}, {2, 2, 0}}, 1, 6);
        DUE.promise(9);
        TearGuests x = Due.at("w9,0;a1,99,1;a1,99,1;");
        x.minutes(1);
        x.hire(0, 0);
        x.minutes(1);
        DUE.is("one that was sent home sheds nothing", x.guest(0, 5), 0);
        DUE.is("and moves nobody", x.guest(1, 5), 1);
        DUE.is("and keeps its well", x.guest(0, 1), 98);
    }

    private static void sheds(String name, String text, int[][] due, int bottle, int paid) {
        DUE.promise(9);
        TearGuests x = Due.at(text);
        TearGuests ahead = Due.at(text);
        for (int m = 0; m < due.length; m++) {
            for (int g = 0; g < due[m].length; g++) {
                DUE.is(name + ": would, minute " + m + ", guest " + g, x.guest(g, 6), due[m][g]);
            }
            x.minutes(1);
            for (int g = 0; g < due[m].length; g++) {
                DUE.is(name + ": LAST, minute " + m + ", guest " + g, x.guest(g, 5), due[m][g]);
                DUE.is(name + ": ahead", ahead.ahead(g, m + 1, 0), due[m][g]);
            }
        }
        DUE.is(name + ": THE BOTTLE", x.count(5), bottle);
        DUE.is(name + ": PAID", x.count(6), paid);
        DUE.is(name + ": THE BOTTLE foretold", ahead.bottle(due.length, 0), bottle);
        DUE.is(name + ": PAID foretold", ahead.bottle(due.length, 1), paid);
        DUE.is(name + ": all at once", ahead.minutes(due.length), bottle);
    }

    private static void minutesToTheEnd() {
        DUE.promise(9);
        TearGuests x = Due.at("w10,15;m1,9,3;");
        for (int m = 0; m < 416; m++) {
            x.minutes(24);
        }
        DUE.is("MINUTE", x.count(2), 9984);
        DUE.is("minutes(16): beyond 9999", x.minutes(16), FULL);
        DUE.is("minutes(25): BAD is ahead of FULL", x.minutes(25), BAD);
        DUE.is("MINUTE: it stayed", x.count(2), 9984);
        DUE.is("minutes(15)", x.minutes(15), 9);
        DUE.is("MINUTE", x.count(2), 9999);
        DUE.is("minutes(1)", x.minutes(1), FULL);
        DUE.is("ahead(0, 60, 1): it can be foretold", x.ahead(0, 60, 1), 0);
        DUE.is("undo()", x.undo(), 23);
        DUE.is("minutes(1): again", x.minutes(1), 9);
    }

    private static void hire() {
        DUE.promise(10);
        TearGuests x = Due.at("w10,0;a2,20,1;a3,30,1;a4,40,1;");
        DUE.is("hire(1, 1): it is so", x.hire(1, 1), STATE);
        DUE.is("hire(3, 1)", x.hire(3, 1), BAD);
        DUE.is("hire(-1, 1)", x.hire(-1, 1), BAD);
        DUE.is("hire(1, 2)", x.hire(1, 2), BAD);
        DUE.is("hire(1, -1)", x.hire(1, -1), BAD);
        DUE.is("no wedding", new TearGuests().hire(0, 1), BAD);
        DUE.is("no ACT by what is refused", x.count(8), 0);
        x.minutes(1);
        DUE.is("hire(1, 0)", x.hire(1, 0), 5);
        DUE.is("LAST is 0 then", x.guest(1, 5), 0);
        DUE.is("LAST of another stays", x.guest(0, 5), 2);
        DUE.is("whether HIRED", x.guest(1, 4), 0);
        DUE.is("hire(1, 0): it is so", x.hire(1, 0), STATE);
        DUE.is("hire(0, 0)", x.hire(0, 0), 4);
        DUE.is("hire(1, 1)", x.hire(1, 1), 6);
        DUE.is("LAST is still 0", x.guest(1, 5), 0);
        DUE.is("ACTS", x.count(8), 4);
        DUE.is("minutes(1)", x.minutes(1), 9 + 4 + 4);
    }

    private static void swap() {
        DUE.promise(11);
        TearGuests x = Due.at("w10,0;a2,20,1;a3,30,1;r0,40,1;");
        x.minutes(1);
        DUE.is("swap(0, 0)", x.swap(0, 0), BAD);
        DUE.is("swap(0, 3)", x.swap(0, 3), BAD);
        DUE.is("swap(-1, 0)", x.swap(-1, 0), BAD);
        DUE.is("no wedding", new TearGuests().swap(0, 1), BAD);
        DUE.is("ACTS", x.count(8), 1);
        DUE.is("would, by guest 1", x.guest(2, 6), 4);
        DUE.is("swap(0, 1)", x.swap(0, 1), 1);
        DUE.is("would, by guest 0", x.guest(2, 6), 3);
        DUE.is("SEAT of the other", x.guest(1, 3), 0);
        DUE.is("seat(0)", x.seat(0), 1);
        DUE.is("seat(1)", x.seat(1), 0);
        DUE.is("LAST goes along", x.guest(0, 5), 2);
        DUE.is("swap(2, 1)", x.swap(2, 1), 0);
        DUE.is("swap(2, 1) back", x.swap(2, 1), 2);
        DUE.is("ACTS", x.count(8), 4);
    }

    private static void hymns() {
        DUE.promise(12);
        DUE.is("no wedding", new TearGuests().hymns(1), STATE);
        DUE.is("no wedding, ahead of BAD", new TearGuests().hymns(16), STATE);
        TearGuests x = Due.at("w10,5;m3,20,1;");
        DUE.is("hymns(16)", x.hymns(16), BAD);
        DUE.is("hymns(-1)", x.hymns(-1), BAD);
        DUE.is("would", x.guest(0, 6), 3);
        DUE.is("hymns(14)", x.hymns(14), 5);
        DUE.is("would", x.guest(0, 6), 0);
        DUE.is("hymns(15)", x.hymns(15), 14);
        DUE.is("hymns(0)", x.hymns(0), 15);
        DUE.is("count(4)", x.count(4), 0);
        DUE.is("ACTS", x.count(8), 3);
        DUE.is("undo()", x.undo(), 2);
        DUE.is("count(4)", x.count(4), 15);
    }

    private static void undo() {
        DUE.promise(13);
        DUE.is("no wedding", new TearGuests().undo(), STATE);
        DUE.is("none", acted(0).undo(), STATE);
        for (int left = 5; left >= 0; left--) {
            TearGuests x = acted(6);
            for (int act = 5; act >= left; act--) {
                DUE.is("undo()", x.undo(), act);
            }
            DUE.holds("as it was ahead of act " + left, Due.all(x).equals(Due.all(acted(left))));
        }
        TearGuests x = acted(1);
        x.undo();
        DUE.is("none more", x.undo(), STATE);
        undoOfMany(x);
    }

    /** A wedding behind so many of six acts, one of each kind and two more. */
    private static TearGuests acted(int acts) {
        TearGuests x = Due.at("w20,5;a2,20,3;r1,30,2;c4,15,1;m5,40,4;o1,9,2;");
        Due.Call[] all = {y -> y.minutes(1), y -> y.hire(3, 0), y -> y.swap(1, 4), y -> y.hymns(2), y -> y.hire(3, 1), y -> y.minutes(1)};
        for (int act = 0; act < acts; act++) {
            all[act].on(x);
        }
        return x;
    }

    private static void undoOfMany(TearGuests x) {
        x.minutes(2);
        String two = Due.all(x);
        x.hymns(7);
        x.minutes(24);
        DUE.is("24 are kept", x.count(8), 24);
        for (int left = 23; left >= 0; left--) {
            DUE.is("undo()", x.undo(), left);
        }
        DUE.is("the oldest are forgotten", x.undo(), STATE);
        DUE.is("MINUTE", x.count(2), 2);
        DUE.is("HYMNS stay as they became", x.count(4), 7);
        DUE.holds("but that, it is as it was", !Due.all(x).equals(two));
        x.minutes(3);
        DUE.is("acts anew", x.undo(), 2);
        DUE.is("MINUTE", x.count(2), 4);
    }

    private static void guest() {
        DUE.promise(14);
        TearGuests x = Due.at("w20,5;a2,3,7;r9,30,2;");
        DUE.is("guest(2, 0)", x.guest(2, 0), BAD);
        DUE.is("guest(-1, 0)", x.guest(-1, 0), BAD);
        DUE.is("guest(0, 7)", x.guest(0, 7), BAD);
        DUE.is("guest(0, -1)", x.guest(0, -1), BAD);
        DUE.is("no wedding", new TearGuests().guest(0, 0), BAD);
        x.minutes(1);
        x.swap(0, 1);
        int[] due = {2, 1, 7, 1, 1, 2, 1};
        for (int what = 0; what <= 6; what++) {
            DUE.is("guest(0, " + what + ")", x.guest(0, what), due[what]);
        }
        DUE.is("guest(1, 6): 9 at most", x.guest(1, 6), 9);
        x.hire(1, 0);
        DUE.is("guest(1, 4)", x.guest(1, 4), 0);
        DUE.is("guest(1, 6): were it HIRED", x.guest(1, 6), 9);
        DUE.is("guest(0, 6): nobody weeps beside", Due.at("w1,0;a2,9,1;").guest(0, 6), 2);
    }

    private static void seat() {
        DUE.promise(15);
        DUE.is("no wedding", new TearGuests().seat(0), BAD);
        TearGuests x = Due.at("w20,5;a2,3,7;r9,30,2;c1,1,1;");
        DUE.is("seat(3)", x.seat(3), BAD);
        DUE.is("seat(-1)", x.seat(-1), BAD);
        x.swap(0, 2);
        DUE.is("seat(0)", x.seat(0), 2);
        DUE.is("seat(1)", x.seat(1), 1);
        DUE.is("seat(2)", x.seat(2), 0);
        x.hire(2, 0);
        DUE.is("seat(0): one sent home keeps it", x.seat(0), 2);
    }

    private static void count() {
        DUE.promise(32);
        TearGuests x = Due.at("w20,5;a2,9,7;r3,30,2;");
        x.row(1, 1, 1);
        x.row(2, 1, 1);
        x.row(3, 1, 1);
        x.minutes(2);
        x.hire(0, 0);
        x.feed(1);
        x.feed(2);
        x.feed(3);
        x.feed(4);
        int[] due = {3, 2, 2, 20, 5, 2 + 3 + 3 + 4, 5 * 7 + 7 * 2, 2, 3, 4};
        for (int what = 0; what <= 9; what++) {
            DUE.is("count(" + what + ")", x.count(what), due[what]);
        }
        DUE.is("count(10)", x.count(10), BAD);
        DUE.is("count(-1)", x.count(-1), BAD);
    }
}
