/** Promises 6 to 8: each sentence that names an edge of the tape, of the text, or of its faults. */
public final class EdgesOfTextsTest {
    private static final int BAD = TearGuests.BAD, STATE = TearGuests.STATE, FULL = TearGuests.FULL;
    /** TOKENS of a wedding of one guest; each NUMBER has two figures, so that a third makes it none. */
    private static final String[] TOKENS = {"w", "12", ",", "03", ";", "a", "04", ",", "56", ",", "07", ";"};
    private static final Due DUE = new Due();

    public static void main(String[] args) {
        letters();
        atMostAHundredAndTen();
        badAheadOfFull();
        emptyThen();
        longest();
        nothingElse();
        numbers();
        numbersOfThreeFigures();
        theEnd();
        sevenAtMost();
        noRoom();
        inPlaceOfTheOneBefore();
        noneAtFirst();
        allStays();
        firstTokenThatHasOne();
        leastOfOneToken();
        latestFault();
        DUE.end();
    }

    private static void letters() {
        DUE.sentence(6, "A byte (0 to 255) comes behind the tape: how many it has. BAD");
        TearGuests x = new TearGuests();
        DUE.is("feed(0)", x.feed(0), 1);
        DUE.is("feed(255)", x.feed(255), 2);
        DUE.is("feed(-1)", x.feed(-1), BAD);
        DUE.is("feed(256)", x.feed(256), BAD);
        DUE.is("feed(256 + 'w'): it does not come round", x.feed(256 + 'w'), BAD);
        for (int letter : Due.FAR) {
            DUE.is("feed(" + letter + ")", x.feed(letter), BAD);
        }
        DUE.is("count(9)", x.count(9), 2);
        TearGuests y = new TearGuests();
        for (char letter : "w1,0;a1,2,3;".toCharArray()) {
            y.feed(-1);
            y.feed(letter);
            y.feed(256);
        }
        DUE.is("wedding(): what was BAD is not on the tape", y.wedding(), 1);
    }

    private static void atMostAHundredAndTen() {
        DUE.sentence(6, "THE TAPE has at most 110 bytes");
        TearGuests x = new TearGuests();
        for (int n = 1; n <= 110; n++) {
            DUE.is("feed, byte " + n, x.feed(n), n);
        }
        for (int more = 0; more < 3; more++) {
            DUE.is("feed, one more", x.feed('w'), FULL);
            DUE.is("count(9)", x.count(9), 110);
        }
    }

    private static void badAheadOfFull() {
        DUE.sentence(6, "BAD; FULL.");
        TearGuests x = new TearGuests();
        for (int n = 1; n <= 110; n++) {
            x.feed('a');
        }
        DUE.is("feed(256)", x.feed(256), BAD);
        DUE.is("feed(-1)", x.feed(-1), BAD);
        DUE.is("feed(255)", x.feed(255), FULL);
        DUE.is("feed(0)", x.feed(0), FULL);
    }

    private static void emptyThen() {
        DUE.sentence(7, "The tape, empty then, is read: how many GUESTS there are.");
        TearGuests x = Due.at("w1,0;a1,2,3;");
        DUE.is("count(9), read", x.count(9), 0);
        DUE.is("wedding() of the empty tape", x.wedding(), -1000100);
        DUE.is("fault()", x.fault(), 1);
        DUE.is("count(1)", x.count(1), 1);
        DUE.is("with a fault", Due.read(x, "w1,0;a"), -1000106);
        DUE.is("count(9), with a fault", x.count(9), 0);
        DUE.is("feed: the first anew", x.feed('w'), 1);
        TearGuests full = new TearGuests();
        for (int n = 1; n <= 110; n++) {
            full.feed('w');
        }
        DUE.is("wedding() of the full tape", full.wedding(), -1000101);
        DUE.is("count(9), it was full", full.count(9), 0);
        DUE.is("what comes behind a full one", Due.read(full, "w1,0;a1,2,3;"), 1);
    }

    private static void longest() {
        DUE.sentence(7, "NUMBERS (figures, 2 at most)");
        String text = "w99,15;" + "a09,99,09;".repeat(7);
        TearGuests x = new TearGuests();
        DUE.is("the longest that has no fault, of " + text.length(), Due.read(x, text), 7);
        DUE.is("count(7)", x.count(7), 127);
        for (int g = 0; g < 7; g++) {
            DUE.is("START", x.guest(g, 0), 9);
            DUE.is("WELL", x.guest(g, 1), 99);
            DUE.is("FEE", x.guest(g, 2), 9);
        }
        DUE.is("the shortest", Due.read(x, "w1,0;a0,0,0;"), 1);
        DUE.is("all of the tape, as far as it goes", Due.read(x, text + "a09,99,09;".repeat(3) + "a09"), -1000100 - 77);
        DUE.is("its fault", x.fault(), 3);
    }

    /** Every byte behind every beginning of a text: those that can stand there, and the others. */
    private static void nothingElse() {
        DUE.sentence(7, "SIGNS , and ; nothing else, no blanks.");
        StringBuilder begun = new StringBuilder();
        for (int k = 0; k <= TOKENS.length; k++) {
            String due = k == TOKENS.length ? "a" : TOKENS[k];
            for (int letter = 0; letter <= 255; letter++) {
                oneMore(begun.toString(), due, (char) letter);
            }
            begun.append(due);
        }
    }

    private static void oneMore(String begun, String due, char letter) {
        boolean figure = letter >= '0' && letter <= '9';
        boolean number = due.length() == 2;
        boolean behindNumber = begun.length() > 1 && Character.isDigit(begun.charAt(begun.length() - 1));
        int place = begun.length();
        int fault = 1;
        if (number && figure) {
            fault = begun.equals("w") && letter == '0' ? 2 : 1;
            place += fault == 2 ? 0 : 1;
        } else if (behindNumber && figure) {
            place -= 2;
        } else if (!number && (due.equals("a") ? "arcmo".indexOf(letter) >= 0 : due.charAt(0) == letter)) {
            place++;
        }
        String name = "\"" + begun + "\" and byte " + (int) letter;
        TearGuests x = new TearGuests();
        int answer = Due.read(x, begun + letter);
        if (begun.length() == 16 && letter == ';') {
            DUE.is(name, answer, 1);
        } else {
            DUE.is(name, answer, -1000100 - place);
            DUE.is(name + ": fault()", x.fault(), fault);
        }
    }

    /** All that has one figure or two, in the place of each NUMBER. */
    private static void numbers() {
        numberWithin("NEED", "w", ",0;a0,0,0;", 1, 99, x -> x.count(3));
        numberWithin("HYMNS", "w1,", ";a0,0,0;", 0, 15, x -> x.count(4));
        numberWithin("START", "w1,0;a", ",0,0;", 0, 9, x -> x.guest(0, 0));
        numberWithin("WELL", "w1,0;a0,", ",0;", 0, 99, x -> x.guest(0, 1));
        numberWithin("FEE", "w1,0;a0,0,", ";", 0, 9, x -> x.guest(0, 2));
        numberWithin("START of the seventh", "w1,0;" + "m0,0,0;".repeat(6) + "o", ",0,0;", 0, 9, x -> x.guest(6, 0));
        numberWithin("WELL of the seventh", "w1,0;" + "m0,0,0;".repeat(6) + "o0,", ",0;", 0, 99, x -> x.guest(6, 1));
        numberWithin("FEE of the seventh", "w1,0;" + "m0,0,0;".repeat(6) + "o0,0,", ";", 0, 9, x -> x.guest(6, 2));
    }

    private static void numberWithin(String name, String ahead, String behind, int least, int most, Due.Call read) {
        DUE.sentence(7, "2 a NUMBER that is not as told");
        for (int n = 0; n < 110; n++) {
            // From 100 on: 0 to 9 with a 0 ahead.
            String figures = n < 100 ? "" + n : "0" + (n - 100);
            int value = Integer.parseInt(figures);
            TearGuests x = new TearGuests();
            int answer = Due.read(x, ahead + figures + behind);
            if (value >= least && value <= most) {
                DUE.holds(name + " " + figures + " is fine", answer > 0);
                DUE.is(name + " " + figures, read.on(x), value);
            } else {
                DUE.is(name + " " + figures, answer, -1000100 - ahead.length());
                DUE.is(name + " " + figures + ": fault()", x.fault(), 2);
            }
        }
    }

    private static void numbersOfThreeFigures() {
        DUE.sentence(7, "1 it cannot stand there, or is none (a run of three figures, at its first");
        String[] ahead = {"w", "w1,", "w1,0;a", "w1,0;a0,", "w1,0;a0,0,"};
        String[] behind = {",0;a0,0,0;", ";a0,0,0;", ",0,0;", ",0;", ";"};
        for (int k = 0; k < ahead.length; k++) {
            for (String run : new String[] {"000", "001", "009", "010", "100", "999", "0000", "1234", "0".repeat(40)}) {
                TearGuests x = new TearGuests();
                DUE.is(ahead[k] + run, Due.read(x, ahead[k] + run + behind[k]), -1000100 - ahead[k].length());
                DUE.is(ahead[k] + run + ": fault()", x.fault(), 1);
                TearGuests y = new TearGuests();
                DUE.is(ahead[k] + run + " and the end", Due.read(y, ahead[k] + run), -1000100 - ahead[k].length());
                DUE.is(ahead[k] + run + " and the end: fault()", y.fault(), 1);
            }
        }
    }

    private static void theEnd() {
        DUE.sentence(7, "the end: how many bytes there are");
        String text = "w12,3;a4,56,7;r8,9,1;c2,34,5;";
        for (int bytes = 0; bytes <= text.length(); bytes++) {
            TearGuests x = new TearGuests();
            int answer = Due.read(x, text.substring(0, bytes));
            int guests = bytes == 14 ? 1 : bytes == 21 ? 2 : bytes == 29 ? 3 : 0;
            DUE.is(bytes + " bytes of " + text, answer, guests > 0 ? guests : -1000100 - bytes);
            DUE.is(bytes + " bytes: fault()", x.fault(), guests > 0 ? 0 : 1);
            DUE.is(bytes + " bytes: count(1)", x.count(1), guests);
            // Behind the end there is nothing of a tape that was longer.
            TearGuests again = Due.at(text);
            answer = Due.read(again, text.substring(0, bytes));
            DUE.is(bytes + " bytes behind all of them", answer, guests > 0 ? guests : -1000100 - bytes);
        }
    }

    private static void sevenAtMost() {
        DUE.sentence(7, "GUESTS 0 .. 6, 7 at most; they sit in SEATS 0, 1, .. as they come");
        for (int guests = 1; guests <= 7; guests++) {
            StringBuilder text = new StringBuilder("w50,9;");
            for (int g = 0; g < guests; g++) {
                text.append("arcmoar".charAt(g)).append(9 - g).append(',').append(90 + g).append(',').append(g).append(';');
            }
            TearGuests x = new TearGuests();
            DUE.is(guests + " guests", Due.read(x, text.toString()), guests);
            DUE.is("count(1)", x.count(1), guests);
            DUE.is("count(7): all are HIRED", x.count(7), (1 << guests) - 1);
            for (int g = 0; g < guests; g++) {
                DUE.is("seat(" + g + ")", x.seat(g), g);
                DUE.is("guest(" + g + ", 3)", x.guest(g, 3), g);
                DUE.is("START", x.guest(g, 0), 9 - g);
                DUE.is("WELL", x.guest(g, 1), 90 + g);
                DUE.is("FEE", x.guest(g, 2), g);
                DUE.is("kind", x.kind(g), g % 5 + 1);
            }
            DUE.is("no guest more", x.guest(guests, 0), BAD);
            DUE.is("no seat more", x.seat(guests), BAD);
        }
    }

    private static void noRoom() {
        DUE.sentence(7, "3 a guest more than there is room for (its letter)");
        String seven = "w1,0;" + "c0,0,0;".repeat(7);
        for (char sort : "arcmo".toCharArray()) {
            for (String behind : new String[] {"", "0,0,0;", "x", "100", "0,0,0;" + sort + "0,0,0;", "99,99,99;"}) {
                TearGuests x = new TearGuests();
                DUE.is("an eighth, " + sort + behind, Due.read(x, seven + sort + behind), -1000100 - seven.length());
                DUE.is("fault()", x.fault(), 3);
                DUE.is("count(1): none is read", x.count(1), 0);
            }
        }
    }

    private static void inPlaceOfTheOneBefore() {
        DUE.sentence(7, "A WEDDING that is read stands in place of the one before (none at first): MINUTE 0, all GUESTS are HIRED, "
            + "nobody shed anything, THE BOTTLE is empty, nothing was PAID; no ACT can be undone.");
        TearGuests x = Due.at("w50,15;a9,99,9;r8,80,8;m7,70,7;");
        x.minutes(3);
        x.hire(0, 0);
        x.hire(2, 0);
        x.swap(0, 2);
        x.hymns(1);
        DUE.is("two in place of three", Due.read(x, "w7,2;o1,11,3;c2,22,4;"), 2);
        int[] counts = {0, 2, 0, 7, 2, 0, 0, 3, 0, 0};
        for (int what = 0; what <= 9; what++) {
            DUE.is("count(" + what + ")", x.count(what), counts[what]);
        }
        int[][] guests = {{1, 11, 3, 0, 1, 0, 2}, {2, 22, 4, 1, 1, 0, 2}};
        for (int g = 0; g < 2; g++) {
            for (int what = 0; what <= 6; what++) {
                DUE.is("guest(" + g + ", " + what + ")", x.guest(g, what), guests[g][what]);
            }
            DUE.is("seat(" + g + ")", x.seat(g), g);
        }
        DUE.is("undo()", x.undo(), STATE);
        DUE.is("guest(2, 0)", x.guest(2, 0), BAD);
        DUE.is("seat(2)", x.seat(2), BAD);
        DUE.is("three in place of two", Due.read(x, "w7,2;o1,11,3;c2,22,4;m3,33,5;"), 3);
        DUE.is("the third is as told", x.guest(2, 1), 33);
        DUE.is("the third has not wept", x.guest(2, 5), 0);
        DUE.is("the third is HIRED", x.guest(2, 4), 1);
    }

    private static void noneAtFirst() {
        DUE.sentence(7, "(none at first)");
        TearGuests x = new TearGuests();
        DUE.is("a text with a fault", Due.read(x, "w1,0;a1,1,10;"), -1000110);
        DUE.is("filled(): there is none yet", x.filled(), STATE);
        DUE.is("count(3)", x.count(3), 0);
        DUE.is("count(4)", x.count(4), 0);
        DUE.is("guest(0, 0)", x.guest(0, 0), BAD);
        DUE.is("image(0)", x.image(0), STATE);
    }

    private static void allStays() {
        DUE.sentence(7, "-1000100 less the place of a FAULT: all stays.");
        for (String text : new String[] {"", "w", "w9,9;", "w9,9;a", "w9,9;a9,9,9", "w9,9;m9,9,9;x", "w9,9;" + "m9,9,9;".repeat(8)}) {
            TearGuests x = Due.at("w50,15;a9,99,9;r8,80,8;m7,70,7;");
            x.minutes(2);
            x.hire(1, 0);
            x.swap(0, 2);
            String before = withoutFault(x);
            DUE.holds("a fault in \"" + text + "\"", Due.read(x, text) <= -1000100);
            DUE.holds("all stays by \"" + text + "\"", withoutFault(x).equals(before));
            DUE.is("undo(): ACTS stay", x.undo(), 3);
            DUE.is("undo()", x.undo(), 2);
            DUE.is("count(7)", x.count(7), 7);
        }
    }

    private static String withoutFault(TearGuests x) {
        String all = Due.all(x);
        return all.substring(0, all.lastIndexOf(' ', all.lastIndexOf(' ') - 1));
    }

    private static void firstTokenThatHasOne() {
        DUE.sentence(8, "FAULTS, the first TOKEN that has one (its first byte)");
        fault("w0,16;", 1, 2);
        fault("w1,16;a10,100,10;", 3, 2);
        fault("w1,15;a10,100,10;", 7, 2);
        fault("w1,15;a1,100,10;", 9, 1);
        fault("w1,15;a1,10,10;", 12, 2);
        fault("w1,15;a1,10,10", 12, 2);
        fault("w1,15;a1,10,1;;b", 14, 1);
        fault("w00 ,0;", 1, 2);
        fault("w000,0;", 1, 1);
        fault("x99999", 0, 1);
        fault("w12 ,", 3, 1);
        fault("w1,0;" + "a0,0,0;".repeat(6) + "a0,0,10;a", 52, 2);
        fault("w1,0;" + "a0,0,0;".repeat(7) + "aw0", 54, 3);
    }

    private static void leastOfOneToken() {
        DUE.sentence(8, "of one TOKEN the least");
        String seven = "w1,0;" + "a0,0,0;".repeat(7);
        // A NUMBER where none can stand is not looked at further; nor is a letter that is no SORT a guest more.
        fault("99", 0, 1);
        fault("0", 0, 1);
        fault("w1,0;99", 5, 1);
        fault("w1,0;a1,1,1;10", 12, 1);
        fault(seven + "w", 54, 1);
        fault(seven + "b0,0,0;", 54, 1);
        fault(seven + "A", 54, 1);
        fault(seven + "0", 54, 1);
        fault(seven + ";", 54, 1);
        fault(seven + " ", 54, 1);
        // A run of three that is above all bounds, too.
        fault("w100,0;", 1, 1);
        fault("w1,016;", 3, 1);
        fault("w1,0;a010,0,0;", 6, 1);
    }

    private static void fault(String text, int place, int number) {
        TearGuests x = new TearGuests();
        DUE.is("wedding of \"" + text + "\"", Due.read(x, text), -1000100 - place);
        DUE.is("fault() of \"" + text + "\"", x.fault(), number);
    }

    private static void latestFault() {
        DUE.sentence(8, "The number of the latest FAULT; 0 before one.");
        TearGuests x = new TearGuests();
        DUE.is("fault() at first", x.fault(), 0);
        Due.read(x, "w1,0;a1,1,1;");
        DUE.is("fault() of what has none", x.fault(), 0);
        String[] texts = {"w0", "w", "w1,0;" + "a0,0,0;".repeat(8), "", "w0"};
        int[] due = {2, 1, 3, 1, 2};
        for (int k = 0; k < texts.length; k++) {
            Due.read(x, texts[k]);
            DUE.is("fault() of \"" + texts[k] + "\"", x.fault(), due[k]);
            x.feed(256);
            x.minutes(0);
            DUE.is("fault(): what is refused is none", x.fault(), due[k]);
            Due.read(x, "w1,0;a1,1,1;");
            DUE.is("fault() behind a text that has none", x.fault(), due[k]);
            x.image(0);
            x.restore(0);
            DUE.is("fault() behind an image", x.fault(), due[k]);
        }
    }
}
