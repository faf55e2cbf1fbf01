/** Promises 9 to 15 and 32: each sentence that names an edge of minutes, of weeping, of acts, or of what they leave. */
public final class EdgesOfActsTest {
    private static final int BAD = TearGuests.BAD, STATE = TearGuests.STATE, FULL = TearGuests.FULL;
    private static final Due DUE = new Due();

    public static void main(String[] args) {
        howManyMinutes();
        anActEach();
        noWedding();
        beyondTheLastMinute();
        lastAtFirst();
        lastOfThoseSentHome();
        besideAtTheEnds();
        lastAboveZero();
        greatestLastBeside();
        oddMinutes();
        hymnsComeRound();
        onions();
        nineAtMost();
        noMoreThanTheWell();
        asTheMinuteBegins();
        othersShedNothing();
        whatComesInThenWhatIsTakenOff();
        noLessThanEmpty();
        asMuchAsThereCanBe();
        paid();
        hireRefused();
        hireIsSo();
        hireLast();
        swapRefused();
        swapSeats();
        hymnsBounds();
        undoNone();
        undoLatestFirst();
        actsKept();
        actsForgotten();
        minutesForget();
        guestBounds();
        guestWould();
        seatBounds();
        countBounds();
        DUE.end();
    }

    // ---- minutes

    private static void howManyMinutes() {
        DUE.sentence(9, "n MINUTES (1 to 24), an ACT each: what is in THE BOTTLE. BAD");
        TearGuests x = Due.at("w99,0;a1,99,1;");
        DUE.is("minutes(0)", x.minutes(0), BAD);
        DUE.is("minutes(25)", x.minutes(25), BAD);
        DUE.is("minutes(-1)", x.minutes(-1), BAD);
        for (int n : Due.FAR) {
            DUE.is("minutes(" + n + ")", x.minutes(n), BAD);
        }
        DUE.is("MINUTE: none passed", x.count(2), 0);
        DUE.is("minutes(1)", x.minutes(1), 1);
        DUE.is("minutes(24)", x.minutes(24), 25);
        DUE.is("MINUTE", x.count(2), 25);
    }

    private static void anActEach() {
        DUE.sentence(9, "n MINUTES (1 to 24), an ACT each");
        TearGuests x = Due.at("w99,0;a1,99,1;");
        x.minutes(5);
        DUE.is("count(8)", x.count(8), 5);
        for (int left = 4; left >= 0; left--) {
            DUE.is("undo()", x.undo(), left);
            DUE.is("MINUTE", x.count(2), left);
            DUE.is("THE BOTTLE", x.count(5), left);
        }
        x.minutes(24);
        DUE.is("count(8) behind 24", x.count(8), 24);
        DUE.is("undo()", x.undo(), 23);
        DUE.is("MINUTE", x.count(2), 23);
    }

    private static void noWedding() {
        DUE.sentence(9, "STATE: no WEDDING (ahead of BAD)");
        for (int n : new int[] {1, 24, 0, 25, -1, Integer.MIN_VALUE, Integer.MAX_VALUE}) {
            DUE.is("minutes(" + n + ")", new TearGuests().minutes(n), STATE);
        }
        DUE.sentence(12, "STATE: no WEDDING (ahead of BAD)");
        for (int v : new int[] {0, 15, 16, -1, Integer.MIN_VALUE, Integer.MAX_VALUE}) {
            DUE.is("hymns(" + v + ")", new TearGuests().hymns(v), STATE);
        }
    }

    private static void beyondTheLastMinute() {
        DUE.sentence(9, "FULL: beyond MINUTE 9999");
        TearGuests x = Due.at("w9,8;m1,1,3;");
        for (int turn = 0; turn < 416; turn++) {
            x.minutes(24);
        }
        for (int back = 0; back < 8; back++) {
            x.undo();
        }
        DUE.is("MINUTE", x.count(2), 9976);
        DUE.is("minutes(24): one beyond", x.minutes(24), FULL);
        DUE.is("minutes(25): BAD is ahead of FULL", x.minutes(25), BAD);
        DUE.is("MINUTE: none of them passed", x.count(2), 9976);
        DUE.is("count(8): and none is kept", x.count(8), 16);
        DUE.is("minutes(23): just as far", x.minutes(23), 1);
        DUE.is("MINUTE", x.count(2), 9999);
        DUE.is("minutes(1)", x.minutes(1), FULL);
        DUE.is("minutes(24)", x.minutes(24), FULL);
        DUE.is("minutes(0): BAD is ahead of FULL", x.minutes(0), BAD);
        DUE.is("bottle(60, 0): what is foretold goes on", x.bottle(60, 0), 1);
        DUE.is("filled()", x.filled(), TearGuests.NONE);
        DUE.is("hymns(3): other acts go on", x.hymns(3), 8);
        DUE.is("undo()", x.undo(), 23);
        DUE.is("undo()", x.undo(), 22);
        DUE.is("minutes(2): one beyond", x.minutes(2), FULL);
        DUE.is("minutes(1)", x.minutes(1), 1);
        DUE.is("MINUTE", x.count(2), 9999);
    }

    // ---- weeping

    /** What each GUEST sheds in each of the first MINUTES. */
    private static void sheds(String text, int[]... due) {
        TearGuests x = Due.at(text);
        for (int m = 0; m < due.length; m++) {
            for (int g = 0; g < due[m].length; g++) {
                DUE.is(text + " minute " + m + ": guest(" + g + ", 6)", x.guest(g, 6), due[m][g]);
            }
            x.minutes(1);
            for (int g = 0; g < due[m].length; g++) {
                DUE.is(text + " minute " + m + ": guest(" + g + ", 5)", x.guest(g, 5), due[m][g]);
            }
        }
    }

    private static int[] by(int... guests) {
        return guests;
    }

    private static void lastAtFirst() {
        DUE.sentence(9, "LAST of a GUEST is what it shed in the MINUTE before (0 at first");
        TearGuests x = Due.at("w9,15;a9,99,1;r9,99,1;c9,99,1;m9,99,1;o9,99,1;");
        for (int g = 0; g < 5; g++) {
            DUE.is("guest(" + g + ", 5)", x.guest(g, 5), 0);
            DUE.is("ahead(" + g + ", 0, 0)", x.ahead(g, 0, 0), 0);
        }
        // At first nobody is moved by those beside.
        sheds("w9,0;a1,9,1;r1,9,1;a1,9,1;", by(1, 1, 1), by(2, 3, 2));
    }

    private static void lastOfThoseSentHome() {
        DUE.sentence(9, "if it was not HIRED then)");
        TearGuests x = Due.at("w9,0;a5,99,1;a1,99,1;");
        x.minutes(1);
        DUE.is("LAST", x.guest(0, 5), 5);
        x.hire(0, 0);
        x.minutes(1);
        DUE.is("LAST of one sent home", x.guest(0, 5), 0);
        DUE.is("LAST of one beside", x.guest(1, 5), 1);
        x.hire(0, 1);
        DUE.is("LAST of one HIRED anew, ahead of a minute", x.guest(0, 5), 0);
        DUE.is("what moves one beside", x.guest(1, 6), 1);
        x.minutes(1);
        DUE.is("LAST of one HIRED anew", x.guest(0, 5), 6);
        DUE.is("what moves one beside", x.guest(1, 6), 2);
    }

    private static void besideAtTheEnds() {
        DUE.sentence(9, "BESIDE it are GUESTS in the SEATS 1 less and 1 more (if there are such).");
        sheds("w9,0;a3,99,1;", by(3), by(3), by(3));
        sheds("w9,0;a9,9,1;a0,9,1;a0,9,1;a0,9,1;", by(9, 0, 0, 0), by(0, 1, 0, 0), by(0, 0, 1, 0), by(0, 1, 0, 1));
        sheds("w9,0;a0,9,1;a0,9,1;a0,9,1;a9,9,1;", by(0, 0, 0, 9), by(0, 0, 1, 0), by(0, 1, 0, 0), by(1, 0, 1, 0));
        sheds("w9,0;a9,9,1;r0,9,1;m0,9,1;m0,9,1;m0,9,1;m0,9,1;r0,9,1;", by(9, 0, 0, 0, 0, 0, 0), by(0, 9, 0, 0, 0, 0, 0),
            by(0, 0, 0, 0, 0, 0, 0));
        sheds("w9,0;r0,9,1;m0,9,1;m0,9,1;m0,9,1;m0,9,1;r0,9,1;a9,9,1;", by(0, 0, 0, 0, 0, 0, 9), by(0, 0, 0, 0, 0, 9, 0));
    }

    private static void lastAboveZero() {
        DUE.sentence(9, "an aunt START, and how many BESIDE her have a LAST above 0");
        sheds("w9,0;a1,9,1;a4,9,1;a0,0,1;", by(1, 4, 0), by(2, 5, 0));
        sheds("w9,0;a0,0,1;a4,9,1;a0,0,1;", by(0, 4, 0), by(0, 4, 0), by(0, 1, 0));
        sheds("w9,0;a1,9,1;a4,9,1;a7,9,1;", by(1, 4, 7), by(2, 5, 2));
    }

    private static void greatestLastBeside() {
        DUE.sentence(9, "a rival what an aunt would, but 1 more than the greatest LAST BESIDE at least, if that is above 0");
        sheds("w9,0;a3,99,1;r0,99,1;a5,99,1;", by(3, 0, 5), by(3, 6, 5), by(4, 6, 6), by(4, 7, 6));
        sheds("w9,0;a5,99,1;r0,99,1;a3,99,1;", by(5, 0, 3), by(5, 6, 3));
        sheds("w9,0;a0,9,1;r0,9,1;a0,9,1;", by(0, 0, 0), by(0, 0, 0));
        sheds("w9,0;a1,9,1;r0,9,1;a0,0,1;", by(1, 0, 0), by(1, 2, 0));
        // As an aunt she sheds 3 and 2 more, and that is as much as 1 above 4; then START is what counts.
        sheds("w9,0;a4,99,1;r3,99,1;a1,99,1;", by(4, 3, 1), by(5, 5, 2));
        sheds("w9,0;a4,99,1;r4,99,1;a1,99,1;", by(4, 4, 1), by(5, 6, 2));
        sheds("w9,0;a1,1,1;r5,99,1;a0,0,1;", by(1, 5, 0), by(0, 6, 0), by(0, 5, 0));
    }

    private static void oddMinutes() {
        DUE.sentence(9, "a child what an aunt would, but nothing in MINUTES that are odd");
        sheds("w9,0;c1,9,1;", by(1), by(0), by(1), by(0), by(1));
        sheds("w9,0;c1,99,1;a1,99,1;", by(1, 1), by(0, 2), by(2, 1), by(0, 2), by(2, 1));
        TearGuests x = Due.at("w9,0;c2,99,1;");
        x.minutes(24);
        DUE.is("in minute 24", x.guest(0, 6), 2);
        x.minutes(1);
        DUE.is("in minute 25", x.guest(0, 6), 0);
        x.undo();
        DUE.is("in minute 24 again", x.guest(0, 6), 2);
    }

    private static void hymnsComeRound() {
        DUE.sentence(9, "bits of MINUTES by 4 left over with a hymn");
        for (int hymns = 0; hymns <= 15; hymns++) {
            TearGuests x = Due.at("w9," + hymns + ";m7,99,1;o5,99,1;");
            for (int m = 0; m < 9; m++) {
                boolean hymn = (hymns / (m % 4 == 0 ? 1 : m % 4 == 1 ? 2 : m % 4 == 2 ? 4 : 8)) % 2 == 1;
                DUE.is("hymns " + hymns + ", a man in minute " + m, x.guest(0, 6), hymn ? 7 : 0);
                DUE.is("hymns " + hymns + ", an onion in minute " + m, x.guest(1, 6), hymn ? 7 : 2);
                x.minutes(1);
            }
        }
        sheds("w9,15;m4,99,1;m4,99,1;a9,9,1;", by(4, 4, 9), by(4, 4, 0), by(4, 4, 0));
    }

    private static void onions() {
        DUE.sentence(9, "one with an onion what a man would, and 2");
        sheds("w9,1;o0,9,1;a9,99,1;", by(2, 9), by(2, 9), by(2, 9), by(2, 9), by(1, 9), by(0, 9));
        sheds("w9,2;o3,99,1;", by(2), by(5), by(2), by(2), by(2), by(5));
    }

    private static void nineAtMost() {
        DUE.sentence(9, "each GUEST that is HIRED sheds what it WOULD, 9 at most");
        sheds("w9,0;a9,99,1;a9,99,1;a9,99,1;", by(9, 9, 9), by(9, 9, 9));
        sheds("w9,0;a1,99,1;a7,99,1;a1,99,1;", by(1, 7, 1), by(2, 9, 2), by(2, 9, 2));
        sheds("w9,0;a1,99,1;a8,99,1;a1,99,1;", by(1, 8, 1), by(2, 9, 2), by(2, 9, 2));
        sheds("w9,0;a7,99,1;r0,99,1;", by(7, 0), by(7, 8), by(8, 8), by(8, 9), by(8, 9));
        sheds("w9,0;a9,99,1;r0,99,1;", by(9, 0), by(9, 9), by(9, 9));
        sheds("w9,0;c8,99,1;a1,99,1;a9,99,1;", by(8, 1, 9), by(0, 3, 9), by(9, 2, 9));
        sheds("w9,15;o6,99,1;", by(8));
        sheds("w9,15;o7,99,1;", by(9));
        sheds("w9,15;o8,99,1;", by(9));
        sheds("w9,15;o9,99,1;m9,99,1;", by(9, 9));
    }

    private static void noMoreThanTheWell() {
        DUE.sentence(9, "and no more than its WELL (what is left in it is so much less)");
        sheds("w9,0;a9,0,1;", by(0), by(0));
        sheds("w9,0;a9,1,1;", by(1), by(0));
        sheds("w9,0;a9,8,1;", by(8), by(0));
        sheds("w9,0;a9,9,1;", by(9), by(0));
        sheds("w9,0;a9,10,1;", by(9), by(1), by(0));
        sheds("w9,15;r5,7,1;c5,7,1;m5,7,1;o5,7,1;", by(5, 5, 5, 7), by(2, 0, 2, 0), by(0, 2, 0, 0));
        TearGuests x = Due.at("w9,0;a4,10,1;");
        int[] wells = {6, 2, 0, 0};
        for (int m = 0; m < wells.length; m++) {
            x.minutes(1);
            DUE.is("the WELL behind minute " + m, x.guest(0, 1), wells[m]);
        }
    }

    private static void asTheMinuteBegins() {
        DUE.sentence(9, "all by LAST as the MINUTE begins");
        // Weeping goes one seat on by the minute, to both sides alike.
        sheds("w9,0;m0,0,1;r0,99,1;r0,99,1;a1,1,1;r0,99,1;r0,99,1;m0,0,1;", by(0, 0, 0, 1, 0, 0, 0), by(0, 0, 2, 0, 2, 0, 0),
            by(0, 3, 0, 0, 0, 3, 0), by(0, 0, 4, 0, 4, 0, 0));
    }

    private static void othersShedNothing() {
        DUE.sentence(9, "the others shed nothing");
        TearGuests x = Due.at("w9,15;a3,30,2;m3,30,2;o3,30,2;");
        x.hire(0, 0);
        x.hire(1, 0);
        x.hire(2, 0);
        DUE.is("minutes(24): nobody is HIRED", x.minutes(24), 0);
        DUE.is("PAID", x.count(6), 0);
        for (int g = 0; g < 3; g++) {
            DUE.is("the WELL stays", x.guest(g, 1), 30);
            DUE.is("LAST", x.guest(g, 5), 0);
        }
        DUE.is("MINUTE is 1 more all the same", x.count(2), 24);
    }

    private static void whatComesInThenWhatIsTakenOff() {
        DUE.sentence(9, "(all together: what comes in, then what is taken off");
        DUE.is("5 in, 2 off", Due.at("w9,0;a5,99,1;o0,99,1;").minutes(1), 3);
        DUE.is("2 off, 5 in: wherever they sit", Due.at("w9,0;o0,99,1;a5,99,1;").minutes(1), 3);
        DUE.is("3 in, 4 off, 3 in", Due.at("w9,0;o0,99,1;a3,99,1;o0,99,1;a3,99,1;").minutes(1), 2);
        DUE.is("in, all of it off", Due.at("w9,0;o0,99,1;a2,99,1;").minutes(1), 0);
    }

    private static void noLessThanEmpty() {
        DUE.sentence(9, "0 at least)");
        TearGuests x = Due.at("w9,1;o5,7,9;a1,99,1;");
        DUE.is("7 off, 1 in", x.minutes(1), 0);
        DUE.is("nothing is owed: 2 in", x.minutes(1), 2);
        DUE.is("and 1 in", x.minutes(1), 3);
        TearGuests y = Due.at("w9,2;a4,4,0;o3,99,9;");
        DUE.is("4 in, 2 off", y.minutes(1), 2);
        DUE.is("5 off 2", y.minutes(1), 0);
        DUE.is("2 off nothing", y.minutes(1), 0);
        DUE.is("foretold, too", Due.at("w9,1;o5,7,9;a1,99,1;").bottle(2, 0), 2);
    }

    private static void asMuchAsThereCanBe() {
        DUE.sentence(9, "What is shed comes into THE BOTTLE (999 at most)");
        // The wells hold 693 in all, and nobody costs more than 9, so that the bounds are never met.
        TearGuests x = Due.at("w99,0;" + "a9,99,9;".repeat(7));
        DUE.is("minutes(10)", x.minutes(10), 630);
        DUE.is("minutes(1): all wells", x.minutes(1), 693);
        DUE.is("minutes(24): nothing more", x.minutes(24), 693);
        DUE.sentence(9, "for each but those with an onion (99999 at most)");
        DUE.is("PAID", x.count(6), 9 * 693);
        DUE.is("bottle(60, 1)", x.bottle(60, 1), 9 * 693);
    }

    private static void paid() {
        DUE.sentence(9, "PAID is FEE times what it shed more, for each but those with an onion");
        TearGuests x = Due.at("w9,15;a2,3,0;r3,9,9;c1,9,5;m4,9,1;o7,99,9;");
        x.minutes(1);
        DUE.is("PAID", x.count(6), 0 + 27 + 5 + 4);
        TearGuests onion = Due.at("w9,15;o9,99,9;");
        onion.minutes(24);
        DUE.is("PAID for an onion alone", onion.count(6), 0);
        TearGuests well = Due.at("w9,0;a9,4,7;");
        well.minutes(24);
        DUE.is("PAID by what was shed, not by what it would", well.count(6), 28);
    }

    // ---- acts

    private static void hireRefused() {
        DUE.sentence(10, "HIRED ones (bits). BAD");
        TearGuests x = Due.at("w9,0;a1,9,1;a1,9,1;a1,9,1;");
        DUE.is("hire(3, 0): one beyond", x.hire(3, 0), BAD);
        DUE.is("hire(-1, 0)", x.hire(-1, 0), BAD);
        DUE.is("hire(0, 2)", x.hire(0, 2), BAD);
        DUE.is("hire(0, -1)", x.hire(0, -1), BAD);
        for (int far : Due.FAR) {
            DUE.is("hire(" + far + ", 0)", x.hire(far, 0), BAD);
            DUE.is("hire(0, " + far + ")", x.hire(0, far), BAD);
        }
        DUE.is("hire(3, 1): BAD is ahead of STATE", x.hire(3, 1), BAD);
        DUE.is("hire(32, 0): bits do not come round", x.hire(32, 0), BAD);
        DUE.is("count(7)", x.count(7), 7);
        DUE.is("count(8)", x.count(8), 0);
    }

    private static void hireIsSo() {
        DUE.sentence(10, "STATE: it is so.");
        TearGuests x = Due.at("w9,0;" + "a1,9,1;".repeat(7));
        int hired = 127;
        for (int g = 0; g < 7; g++) {
            DUE.is("hire(" + g + ", 1): it is so", x.hire(g, 1), STATE);
            hired -= 1 << g;
            DUE.is("hire(" + g + ", 0)", x.hire(g, 0), hired);
            DUE.is("hire(" + g + ", 0): it is so", x.hire(g, 0), STATE);
        }
        DUE.is("count(7): nobody", x.count(7), 0);
        DUE.is("count(8): an ACT each, none by what was refused", x.count(8), 7);
        DUE.is("hire(6, 1)", x.hire(6, 1), 64);
        DUE.is("hire(0, 1)", x.hire(0, 1), 65);
    }

    private static void hireLast() {
        DUE.sentence(10, "sent home (0; its LAST is 0 then)");
        TearGuests x = Due.at("w9,0;a3,9,1;r0,9,1;");
        x.minutes(1);
        DUE.is("what moves one beside", x.guest(1, 6), 4);
        x.hire(0, 0);
        DUE.is("LAST", x.guest(0, 5), 0);
        DUE.is("what moves one beside", x.guest(1, 6), 0);
        DUE.is("the WELL stays", x.guest(0, 1), 6);
        DUE.is("undo()", x.undo(), 1);
        DUE.is("LAST, undone", x.guest(0, 5), 3);
        x.hire(0, 0);
        x.hire(0, 1);
        DUE.is("LAST, HIRED again", x.guest(0, 5), 0);
    }

    private static void swapRefused() {
        DUE.sentence(11, "BAD (alike, too).");
        TearGuests x = Due.at("w9,0;a1,9,1;a1,9,1;a1,9,1;");
        for (int g = 0; g < 3; g++) {
            DUE.is("swap(" + g + ", " + g + ")", x.swap(g, g), BAD);
        }
        DUE.is("swap(0, 3)", x.swap(0, 3), BAD);
        DUE.is("swap(3, 0)", x.swap(3, 0), BAD);
        DUE.is("swap(3, 3)", x.swap(3, 3), BAD);
        DUE.is("swap(-1, 0)", x.swap(-1, 0), BAD);
        DUE.is("swap(0, -1)", x.swap(0, -1), BAD);
        for (int far : Due.FAR) {
            DUE.is("swap(" + far + ", 0)", x.swap(far, 0), BAD);
            DUE.is("swap(0, " + far + ")", x.swap(0, far), BAD);
        }
        DUE.is("count(8)", x.count(8), 0);
        DUE.is("one guest alone", Due.at("w9,0;a1,9,1;").swap(0, 1), BAD);
        DUE.is("one guest alone, alike", Due.at("w9,0;a1,9,1;").swap(0, 0), BAD);
    }

    private static void swapSeats() {
        DUE.sentence(11, "Two GUESTS change SEATS: the SEAT of the one then.");
        TearGuests x = Due.at("w9,0;" + "a1,9,1;".repeat(7));
        DUE.is("swap(0, 6): from end to end", x.swap(0, 6), 6);
        DUE.is("seat(0)", x.seat(0), 6);
        DUE.is("seat(6)", x.seat(6), 0);
        DUE.is("swap(0, 6): back", x.swap(0, 6), 0);
        DUE.is("swap(6, 0)", x.swap(6, 0), 0);
        DUE.is("swap(6, 3): by GUESTS, not by SEATS", x.swap(6, 3), 3);
        int[] seats = {3, 1, 2, 6, 4, 5, 0};
        for (int s = 0; s < 7; s++) {
            DUE.is("seat(" + s + ")", x.seat(s), seats[s]);
            DUE.is("guest(" + seats[s] + ", 3)", x.guest(seats[s], 3), s);
        }
        x.hire(3, 0);
        DUE.is("swap(3, 1): one sent home has a SEAT, too", x.swap(3, 1), 1);
        DUE.is("seat(0)", x.seat(0), 1);
    }

    private static void hymnsBounds() {
        DUE.sentence(12, "HYMNS are v (0 to 15): what they were. BAD");
        TearGuests x = Due.at("w9,15;m1,9,1;");
        DUE.is("hymns(-1)", x.hymns(-1), BAD);
        DUE.is("hymns(16)", x.hymns(16), BAD);
        for (int v : Due.FAR) {
            DUE.is("hymns(" + v + ")", x.hymns(v), BAD);
        }
        DUE.is("count(4)", x.count(4), 15);
        DUE.is("count(8)", x.count(8), 0);
        int were = 15;
        for (int v = 0; v <= 15; v++) {
            DUE.is("hymns(" + v + ")", x.hymns(v), were);
            DUE.is("count(4)", x.count(4), v);
            were = v;
        }
    }

    private static void undoNone() {
        DUE.sentence(13, "STATE: none.");
        DUE.is("no wedding", new TearGuests().undo(), STATE);
        TearGuests x = Due.at("w9,15;m1,9,1;");
        DUE.is("a wedding just read", x.undo(), STATE);
        x.minutes(1);
        DUE.is("the only one", x.undo(), 0);
        DUE.is("none more", x.undo(), STATE);
        DUE.is("none more, again", x.undo(), STATE);
        DUE.is("count(8)", x.count(8), 0);
        x.hire(0, 1);
        x.swap(0, 0);
        x.hymns(16);
        x.minutes(0);
        DUE.is("what is refused is no ACT", x.undo(), STATE);
        x.image(0);
        x.ask(0, 0);
        x.bottle(5, 0);
        x.drawn(5, 5, 0);
        DUE.is("nor is what is asked", x.undo(), STATE);
    }

    private static void undoLatestFirst() {
        DUE.sentence(13, "each can be undone, the latest first");
        TearGuests x = Due.at("w9,15;a1,90,1;r2,90,2;");
        x.hymns(3);
        x.hire(1, 0);
        x.swap(0, 1);
        x.minutes(1);
        DUE.is("THE BOTTLE", x.count(5), 1);
        DUE.is("undo() of a MINUTE", x.undo(), 3);
        DUE.is("THE BOTTLE", x.count(5), 0);
        DUE.is("PAID", x.count(6), 0);
        DUE.is("the WELL", x.guest(0, 1), 90);
        DUE.is("LAST", x.guest(0, 5), 0);
        DUE.is("SEATS are still changed", x.seat(0), 1);
        DUE.is("undo() of SEATS", x.undo(), 2);
        DUE.is("seat(0)", x.seat(0), 0);
        DUE.is("guest(1, 3)", x.guest(1, 3), 1);
        DUE.is("one is still at home", x.count(7), 1);
        DUE.is("undo() of one sent home", x.undo(), 1);
        DUE.is("count(7)", x.count(7), 3);
        DUE.is("HYMNS are still others", x.count(4), 3);
        DUE.is("undo() of HYMNS", x.undo(), 0);
        DUE.is("count(4)", x.count(4), 15);
    }

    private static void actsKept() {
        DUE.sentence(13, "ACTS (24 at most are kept");
        TearGuests x = Due.at("w9,15;a1,90,1;");
        for (int act = 1; act <= 40; act++) {
            x.hymns(act % 16);
            DUE.is("count(8) behind " + act, x.count(8), Math.min(act, 24));
        }
        for (int left = 23; left >= 0; left--) {
            DUE.is("undo()", x.undo(), left);
            DUE.is("count(4)", x.count(4), (left + 16) % 16);
        }
        DUE.is("undo()", x.undo(), STATE);
        DUE.is("count(4): those forgotten stay done", x.count(4), 0);
    }

    /** Each kind of ACT as the oldest of 24, which is undone, and of 25, which is forgotten. */
    private static void actsForgotten() {
        DUE.sentence(13, "of more the oldest is forgotten");
        Due.Call[] acts = {x -> x.minutes(1), x -> x.hire(0, 0), x -> x.swap(0, 1), x -> x.hymns(5)};
        for (int a = 0; a < acts.length; a++) {
            for (int more = 23; more <= 24; more++) {
                TearGuests fresh = Due.at("w9,15;a1,90,1;r2,90,2;");
                TearGuests x = Due.at("w9,15;a1,90,1;r2,90,2;");
                acts[a].on(x);
                TearGuests done = Due.at("w9,15;a1,90,1;r2,90,2;");
                acts[a].on(done);
                for (int k = 0; k < more; k++) {
                    x.hymns(k % 2);
                }
                for (int k = 0; k < 24; k++) {
                    DUE.is("undo()", x.undo(), 23 - k);
                }
                DUE.is("undo(): none more", x.undo(), STATE);
                boolean undone = more == 23;
                for (int what = 0; what <= 6; what++) {
                    DUE.is("act " + a + ", " + more + " more: guest(0, " + what + ")", x.guest(0, what),
                        undone ? fresh.guest(0, what) : done.guest(0, what));
                }
                for (int what = 2; what <= 7; what++) {
                    DUE.is("act " + a + ", " + more + " more: count(" + what + ")", x.count(what),
                        undone ? fresh.count(what) : done.count(what));
                }
            }
        }
    }

    private static void minutesForget() {
        DUE.sentence(13, "24 at most are kept, of more the oldest is forgotten");
        TearGuests x = Due.at("w99,0;a1,99,1;");
        x.minutes(3);
        x.minutes(24);
        DUE.is("count(8)", x.count(8), 24);
        for (int k = 0; k < 24; k++) {
            x.undo();
        }
        DUE.is("MINUTE: three are forgotten", x.count(2), 3);
        DUE.is("THE BOTTLE", x.count(5), 3);
        DUE.is("undo()", x.undo(), STATE);
        x.minutes(2);
        DUE.is("count(8): room again", x.count(8), 2);
        DUE.is("undo()", x.undo(), 1);
        DUE.is("MINUTE", x.count(2), 4);
    }

    // ---- what they leave

    private static void guestBounds() {
        DUE.sentence(14, "6 what it would shed in this MINUTE, were it HIRED. BAD.");
        TearGuests x = Due.at("w9,15;a1,90,1;r2,80,2;");
        int[] due = {2, 80, 2, 1, 1, 0, 2};
        for (int what = 0; what <= 6; what++) {
            DUE.is("guest(1, " + what + ")", x.guest(1, what), due[what]);
            DUE.is("guest(2, " + what + ")", x.guest(2, what), BAD);
            DUE.is("guest(-1, " + what + ")", x.guest(-1, what), BAD);
        }
        x.hire(1, 0);
        DUE.is("guest(1, 4): sent home", x.guest(1, 4), 0);
        DUE.is("guest(1, 7)", x.guest(1, 7), BAD);
        DUE.is("guest(1, -1)", x.guest(1, -1), BAD);
        for (int far : Due.FAR) {
            DUE.is("guest(" + far + ", 0)", x.guest(far, 0), BAD);
            DUE.is("guest(0, " + far + ")", x.guest(0, far), BAD);
        }
    }

    private static void guestWould() {
        DUE.sentence(14, "6 what it would shed in this MINUTE, were it HIRED");
        TearGuests x = Due.at("w9,2;a3,99,1;r1,99,1;c4,99,1;m5,99,1;o6,99,1;");
        x.minutes(1);
        // Shed were 3, 1, 4, 0, 2; minute 1 is odd and has a hymn.
        int[] due = {4, 5, 0, 5, 8};
        for (int g = 0; g < 5; g++) {
            DUE.is("HIRED: guest(" + g + ", 6)", x.guest(g, 6), due[g]);
            x.hire(g, 0);
            DUE.is("sent home: guest(" + g + ", 6)", x.guest(g, 6), due[g]);
            x.undo();
        }
        TearGuests dry = Due.at("w9,0;a3,0,1;");
        dry.hire(0, 0);
        DUE.is("an empty WELL: guest(0, 6)", dry.guest(0, 6), 0);
    }

    private static void seatBounds() {
        DUE.sentence(15, "The GUEST in a SEAT. BAD.");
        for (int guests = 1; guests <= 7; guests++) {
            TearGuests x = Due.at("w9,15;" + "a1,90,1;".repeat(guests));
            DUE.is("the last", x.seat(guests - 1), guests - 1);
            DUE.is("one beyond", x.seat(guests), BAD);
            DUE.is("seat(7)", x.seat(7), BAD);
            DUE.is("seat(-1)", x.seat(-1), BAD);
            for (int far : Due.FAR) {
                DUE.is("seat(" + far + ")", x.seat(far), BAD);
            }
        }
    }

    private static void countBounds() {
        DUE.sentence(32, "9 bytes on the tape. BAD.");
        TearGuests x = new TearGuests();
        for (int what = 0; what <= 9; what++) {
            DUE.is("count(" + what + "): none", x.count(what), 0);
        }
        DUE.is("count(10)", x.count(10), BAD);
        DUE.is("count(-1)", x.count(-1), BAD);
        for (int what : Due.FAR) {
            DUE.is("count(" + what + ")", x.count(what), BAD);
        }
        for (int r = 0; r <= 7; r++) {
            x.row(r, 0, 0);
        }
        DUE.is("count(0): all rows", x.count(0), 8);
        x.row(3, 1, 1);
        DUE.is("count(0): one made anew", x.count(0), 8);
        x.drop(3);
        DUE.is("count(0): one dropped", x.count(0), 7);
        Due.read(x, "w99,15;" + "a9,99,9;".repeat(7));
        x.minutes(24);
        x.feed(0);
        int[] due = {7, 7, 24, 99, 15, 693, 6237, 127, 24, 1};
        for (int what = 0; what <= 9; what++) {
            DUE.is("count(" + what + "): as many as there can be", x.count(what), due[what]);
        }
    }
}
