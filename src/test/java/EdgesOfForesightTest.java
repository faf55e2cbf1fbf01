import java.util.List;

/** Promises 16 to 27: each sentence that names an edge of what is foretold, planned, guessed, drawn or kept. */
public final class EdgesOfForesightTest {
    private static final int BAD = TearGuests.BAD, STATE = TearGuests.STATE, NONE = TearGuests.NONE;
    private static final int NULL = -1000011, PLACE = -1000012;
    private static final Due DUE = new Due();

    public static void main(String[] args) {
        stateAheadOfBad();
        nothingChanges();
        aheadMinutes();
        aheadRefused();
        bottleMinutes();
        bottleRefused();
        filledNow();
        filledLate();
        filledFirst();
        dryNow();
        dryLate();
        dryOfSeveral();
        dryRefused();
        hiringMinutes();
        hiringBehindThem();
        hiringOfSeveral();
        hiringNobody();
        hiringAnew();
        orderMinutes();
        orderOfOne();
        orderFirst();
        orderAlong();
        changeMinutes();
        changeOfOne();
        changeFirst();
        fitsMinutes();
        fitsRefused();
        fitsPlaces();
        fitsKinds();
        fitsStarts();
        fitsHymns();
        fitsWells();
        fitsAtHome();
        awayBounds();
        awayCertain();
        awayLowestTerms();
        awayMinutes();
        awayHired();
        drawnBounds();
        drawnOfOne();
        drawnSeats();
        drawnRests();
        imageBounds();
        imageKept();
        restoreNone();
        restoreForgets();
        DUE.end();
    }

    /** BAD for each of the calls, on an object of its own. */
    private static void bad(String text, List<Due.Call> calls) {
        for (int c = 0; c < calls.size(); c++) {
            DUE.is("call " + c + " of those that are BAD", calls.get(c).on(Due.at(text)), BAD);
        }
    }

    private static void stateAheadOfBad() {
        int far = Integer.MAX_VALUE;
        List<Due.Call> calls = List.of(x -> x.bottle(61, 0), x -> x.bottle(0, 2), x -> x.dry(2), x -> x.dry(-1), x -> x.hiring(0, 0),
            x -> x.hiring(1, 2), x -> x.order(11, 0), x -> x.order(1, -1), x -> x.change(31, 0), x -> x.change(1, 2), x -> x.away(31, 0, 0),
            x -> x.away(0, 11, 0), x -> x.away(0, 0, 2), x -> x.drawn(61, 1, 0), x -> x.drawn(0, 0, 0), x -> x.drawn(0, 1, 2),
            x -> x.bottle(far, far), x -> x.hiring(far, far), x -> x.order(far, far), x -> x.change(far, far), x -> x.away(far, far, far),
            x -> x.drawn(far, far, far));
        int[] promises = {17, 17, 19, 19, 20, 20, 21, 21, 22, 22, 24, 24, 24, 25, 25, 25, 17, 20, 21, 22, 24, 25};
        for (int c = 0; c < promises.length; c++) {
            DUE.sentence(promises[c], "STATE: no WEDDING (ahead of BAD).");
            DUE.is("call " + c, calls.get(c).on(new TearGuests()), STATE);
        }
        DUE.sentence(18, "STATE: no WEDDING.");
        DUE.is("filled()", new TearGuests().filled(), STATE);
    }

    private static void nothingChanges() {
        DUE.sentence(16, "FORETOLD (nothing changes)");
        String text = "w30,5;a9,50,3;r1,30,2;c4,15,1;m5,40,4;o1,9,2;";
        List<Due.Call> calls = List.of(x -> x.ahead(0, 60, 0), x -> x.ahead(4, 60, 1), x -> x.bottle(60, 0), x -> x.bottle(60, 1),
            x -> x.filled(), x -> x.dry(0), x -> x.dry(1), x -> x.hiring(30, 0), x -> x.hiring(30, 1), x -> x.order(10, 0),
            x -> x.order(10, 1), x -> x.change(30, 0), x -> x.change(30, 1), x -> x.away(30, 5, 0), x -> x.away(30, 5, 1),
            x -> x.drawn(60, 77, 0), x -> x.drawn(60, 77, 1), x -> x.fits(1, 0, 0, 12, 0), x -> x.fits(1, 0, 0, 12, 1),
            x -> x.fits(1, 0, 0, 12, 2), x -> x.fits(1, 0, 0, 12, 3), x -> x.fits(1, 0, 0, 12, 4), x -> x.image(0));
        for (int c = 0; c < calls.size(); c++) {
            TearGuests x = Due.at(text);
            x.minutes(3);
            x.hire(2, 0);
            x.swap(1, 3);
            x.row(0, 0, 12);
            String before = Due.all(x);
            calls.get(c).on(x);
            DUE.holds("call " + c + " changes nothing", Due.all(x).equals(before));
            x.undo();
            x.undo();
            // In minute 1 the rival beside the child wept, the man did not.
            DUE.is("call " + c + ": LAST is there, undone", x.guest(2, 5), 4 + 1);
        }
    }

    private static void aheadMinutes() {
        DUE.sentence(16, "d MINUTES on (0 to 60): LAST, WELL of a GUEST");
        TearGuests x = Due.at("w99,0;a1,60,1;");
        x.minutes(1);
        DUE.is("ahead(0, 0, 0): now", x.ahead(0, 0, 0), 1);
        DUE.is("ahead(0, 0, 1): now", x.ahead(0, 0, 1), 59);
        DUE.is("ahead(0, 59, 0): the last tear", x.ahead(0, 59, 0), 1);
        DUE.is("ahead(0, 59, 1)", x.ahead(0, 59, 1), 0);
        DUE.is("ahead(0, 60, 0): dry", x.ahead(0, 60, 0), 0);
        TearGuests y = Due.at("w99,0;a1,99,1;");
        DUE.is("ahead(0, 60, 1)", y.ahead(0, 60, 1), 39);
        DUE.is("ahead(0, 59, 1)", y.ahead(0, 59, 1), 40);
        y.hire(0, 0);
        DUE.is("ahead(0, 60, 1): sent home", y.ahead(0, 60, 1), 99);
    }

    private static void aheadRefused() {
        DUE.sentence(16, "LAST (what = 0), WELL (1), d MINUTES on. BAD.");
        String two = "w99,0;a1,60,1;a1,60,1;";
        bad(two, List.of(x -> x.ahead(2, 0, 0), x -> x.ahead(-1, 0, 0), x -> x.ahead(0, 61, 0), x -> x.ahead(0, -1, 0), x -> x.ahead(0, 0, 2),
            x -> x.ahead(0, 0, -1)));
        for (int far : Due.FAR) {
            bad(two, List.of(x -> x.ahead(far, 0, 0), x -> x.ahead(0, far, 0), x -> x.ahead(0, 0, far)));
        }
        DUE.is("no wedding: there is no such guest", new TearGuests().ahead(0, 0, 0), BAD);
    }

    private static void bottleMinutes() {
        DUE.sentence(17, "THE BOTTLE (what = 0), PAID (1), d MINUTES on.");
        TearGuests x = Due.at("w99,0;a1,99,2;");
        DUE.is("bottle(0, 0)", x.bottle(0, 0), 0);
        DUE.is("bottle(0, 1)", x.bottle(0, 1), 0);
        DUE.is("bottle(60, 0)", x.bottle(60, 0), 60);
        DUE.is("bottle(60, 1)", x.bottle(60, 1), 120);
        x.minutes(5);
        DUE.is("bottle(0, 0): now", x.bottle(0, 0), 5);
        DUE.is("bottle(0, 1): now", x.bottle(0, 1), 10);
        DUE.is("bottle(60, 0)", x.bottle(60, 0), 65);
        TearGuests y = Due.at("w99,0;" + "a9,99,9;".repeat(7));
        DUE.is("bottle(60, 0): as much as there can be", y.bottle(60, 0), 693);
        DUE.is("bottle(60, 1): as much as there can be", y.bottle(60, 1), 6237);
    }

    private static void bottleRefused() {
        DUE.sentence(17, "BAD");
        String one = "w99,0;a1,99,2;";
        bad(one, List.of(x -> x.bottle(-1, 0), x -> x.bottle(61, 0), x -> x.bottle(0, -1), x -> x.bottle(0, 2)));
        for (int far : Due.FAR) {
            bad(one, List.of(x -> x.bottle(far, 0), x -> x.bottle(0, far)));
        }
    }

    private static void filledNow() {
        DUE.sentence(18, "FILLED: behind how many MINUTES (0 to 60) THE BOTTLE has NEED or more first");
        TearGuests x = Due.at("w6,0;a3,99,2;");
        DUE.is("filled()", x.filled(), 2);
        x.minutes(1);
        DUE.is("filled(): 3 of 6", x.filled(), 1);
        x.minutes(1);
        DUE.is("filled(): just NEED, now", x.filled(), 0);
        x.minutes(1);
        DUE.is("filled(): more, now", x.filled(), 0);
        DUE.is("one short of NEED", Due.at("w7,0;a3,99,2;").filled(), 3);
        DUE.is("NEED 1", Due.at("w1,0;a1,1,0;").filled(), 1);
        DUE.is("NEED 99, of just as much", Due.at("w99,0;a9,99,0;").filled(), 11);
    }

    private static void filledLate() {
        DUE.sentence(18, "(0 to 60); NONE");
        DUE.is("behind 59", Due.at("w59,0;a1,99,2;").filled(), 59);
        DUE.is("behind 60", Due.at("w60,0;a1,99,2;").filled(), 60);
        DUE.is("behind 61", Due.at("w61,0;a1,99,2;").filled(), NONE);
        DUE.is("one short for ever", Due.at("w99,0;a9,98,2;").filled(), NONE);
        TearGuests home = Due.at("w1,0;a9,98,2;");
        home.hire(0, 0);
        DUE.is("nobody is HIRED", home.filled(), NONE);
    }

    private static void filledFirst() {
        DUE.sentence(18, "has NEED or more first");
        TearGuests x = Due.at("w4,0;a6,6,1;o0,9,1;");
        DUE.is("full for one minute", x.filled(), 1);
        x.minutes(2);
        DUE.is("no longer", x.filled(), NONE);
        // 6 in and 2 off, 2 off, 6 in and 2 off: 4, 2, 6.
        TearGuests again = Due.at("w4,0;c6,99,1;m0,0,1;o0,99,1;");
        DUE.is("full, less, full again", again.filled(), 1);
        again.minutes(2);
        DUE.is("full again", again.filled(), 1);
    }

    private static void dryNow() {
        DUE.sentence(19, "DRY: the GUEST, HIRED, whose WELL is empty first");
        TearGuests x = Due.at("w4,0;a1,1,1;a1,0,1;");
        DUE.is("dry(0): empty now", x.dry(0), 1);
        DUE.is("dry(1)", x.dry(1), 0);
        x.hire(1, 0);
        DUE.is("dry(0): who is not HIRED is left out", x.dry(0), 0);
        DUE.is("dry(1)", x.dry(1), 1);
        x.minutes(1);
        DUE.is("dry(0): empty by now", x.dry(0), 0);
        DUE.is("dry(1)", x.dry(1), 0);
        x.hire(0, 0);
        DUE.is("dry(0): nobody is HIRED", x.dry(0), NONE);
        DUE.is("dry(1): nobody is HIRED", x.dry(1), NONE);
    }

    private static void dryLate() {
        DUE.sentence(19, "behind how many MINUTES (0 to 60); NONE");
        DUE.is("behind 60", Due.at("w4,0;a1,60,1;").dry(0), 0);
        DUE.is("behind 60", Due.at("w4,0;a1,60,1;").dry(1), 60);
        DUE.is("behind 61", Due.at("w4,0;a1,61,1;").dry(0), NONE);
        DUE.is("behind 61", Due.at("w4,0;a1,61,1;").dry(1), NONE);
        DUE.is("never", Due.at("w4,0;m9,1,1;").dry(0), NONE);
        DUE.is("an onion, too", Due.at("w4,0;o0,99,1;").dry(1), 50);
    }

    private static void dryOfSeveral() {
        DUE.sentence(19, "of several the least");
        TearGuests x = Due.at("w4,0;a1,99,1;m0,9,1;a2,6,1;a1,9,1;m0,5,1;");
        // 2 sheds 2, then 3, then the 1 that is left; all others have more than they shed by then.
        DUE.is("dry(0)", x.dry(0), 2);
        DUE.is("dry(1)", x.dry(1), 3);
        TearGuests y = Due.at("w4,0;a1,9,1;m0,9,1;a2,4,1;m0,9,1;a2,4,1;m0,9,1;a2,4,1;");
        DUE.is("dry(0): three at once", y.dry(0), 2);
        y.swap(2, 6);
        DUE.is("dry(0): by number, not by seat", y.dry(0), 2);
        y.hire(2, 0);
        DUE.is("dry(0): the next", y.dry(0), 4);
        DUE.is("dry(1)", y.dry(1), 2);
    }

    private static void dryRefused() {
        DUE.sentence(19, "BAD");
        bad("w4,0;a1,60,1;", List.of(x -> x.dry(2), x -> x.dry(-1), x -> x.dry(Integer.MAX_VALUE), x -> x.dry(Integer.MIN_VALUE)));
    }

    private static void hiringMinutes() {
        DUE.sentence(20, "HIRE for n MINUTES (1 to 30)");
        TearGuests x = Due.at("w30,0;a1,99,3;");
        DUE.is("hiring(30, 0)", x.hiring(30, 0), 1);
        DUE.is("hiring(30, 1)", x.hiring(30, 1), 90);
        DUE.is("hiring(29, 0)", x.hiring(29, 0), NONE);
        DUE.is("hiring(29, 1)", x.hiring(29, 1), NONE);
        DUE.is("hiring(1, 0)", Due.at("w9,0;a9,99,3;").hiring(1, 0), 1);
        String one = "w1,0;a1,99,3;";
        bad(one, List.of(y -> y.hiring(0, 0), y -> y.hiring(31, 0), y -> y.hiring(-1, 0), y -> y.hiring(1, 2), y -> y.hiring(1, -1)));
        for (int far : Due.FAR) {
            bad(one, List.of(y -> y.hiring(far, 0), y -> y.hiring(1, far)));
        }
    }

    private static void hiringBehindThem() {
        DUE.sentence(20, "fill THE BOTTLE (NEED or more) behind them");
        // Only by the onion does the rival weep: 3 in minute 1, and 2 are taken off in each.
        TearGuests x = Due.at("w1,0;r0,3,5;o0,99,0;");
        DUE.is("hiring(1, 0)", x.hiring(1, 0), NONE);
        DUE.is("hiring(2, 0): with an onion", x.hiring(2, 0), 3);
        DUE.is("hiring(2, 1)", x.hiring(2, 1), 15);
        DUE.is("hiring(3, 0): full on the way does not count", x.hiring(3, 0), NONE);
        TearGuests y = Due.at("w4,0;r0,99,1;o0,4,9;");
        DUE.is("hiring(3, 0): just NEED", y.hiring(3, 0), 3);
        DUE.is("hiring(2, 0): one short of it", Due.at("w2,0;r0,99,1;o0,4,9;").hiring(2, 0), NONE);
    }

    private static void hiringOfSeveral() {
        DUE.sentence(20, "with the least PAID, of several the fewest, then the least bits");
        DUE.is("two for 4 rather than one for 5", Due.at("w4,0;a4,9,2;m0,0,0;a2,9,1;m0,0,0;a2,9,1;").hiring(1, 0), 20);
        DUE.is("one for 4 rather than two for 4", Due.at("w4,0;m0,0,0;a2,9,1;a2,9,1;m0,0,0;a4,9,1;").hiring(1, 0), 16);
        DUE.is("of two alike the least", Due.at("w4,0;m0,0,0;a2,9,1;a4,9,1;a4,9,1;").hiring(1, 0), 4);
        DUE.is("of pairs alike the least bits", Due.at("w4,0;a2,9,1;a2,9,1;a2,9,1;").hiring(1, 0), 3);
        DUE.is("nobody more, though it costs nothing", Due.at("w4,0;a4,9,0;a4,9,0;m9,9,0;").hiring(1, 0), 1);
        DUE.is("the seventh alone", Due.at("w4,0;" + "a4,9,1;".repeat(6) + "a4,9,0;").hiring(1, 0), 64);
        DUE.is("all seven", Due.at("w7,0;" + "a1,9,1;".repeat(7)).hiring(1, 0), 127);
    }

    private static void hiringNobody() {
        DUE.sentence(20, "the set of GUESTS that, HIRED now (the others not), fill THE BOTTLE (NEED or more) behind them");
        TearGuests x = Due.at("w3,0;a3,99,2;");
        x.minutes(1);
        DUE.is("hiring(1, 0): it is full, nobody is needed", x.hiring(1, 0), 0);
        DUE.is("hiring(30, 0)", x.hiring(30, 0), 0);
        DUE.is("hiring(30, 1): what was PAID", x.hiring(30, 1), 6);
    }

    private static void hiringAnew() {
        DUE.sentence(20, "HIRED now (the others not)");
        TearGuests x = Due.at("w9,0;a3,99,1;r0,99,1;");
        x.minutes(1);
        // 3 are in; both bring 3 and 4 more; the rival alone nothing, since the other's LAST is 0 then.
        DUE.is("hiring(1, 0): LAST stays with those that stay", x.hiring(1, 0), 3);
        DUE.is("hiring(1, 1)", x.hiring(1, 1), 10);
        TearGuests y = Due.at("w7,0;a3,99,1;r0,99,1;");
        y.minutes(1);
        y.hire(0, 0);
        DUE.is("hiring(1, 0): LAST of one HIRED anew is 0", y.hiring(1, 0), NONE);
        TearGuests home = Due.at("w3,0;a3,99,1;a3,99,2;");
        home.hire(0, 0);
        home.hire(1, 0);
        DUE.is("hiring(1, 0): those at home", home.hiring(1, 0), 1);
    }

    private static void orderMinutes() {
        DUE.sentence(21, "ORDER for n MINUTES (1 to 10)");
        TearGuests x = Due.at("w99,0;a1,99,1;m0,0,1;");
        DUE.is("order(1, 1)", x.order(1, 1), 1);
        DUE.is("order(10, 1)", x.order(10, 1), 10);
        bad("w99,0;a1,99,1;m0,0,1;", List.of(y -> y.order(0, 0), y -> y.order(11, 0), y -> y.order(-1, 0), y -> y.order(1, 2), y -> y.order(1, -1)));
        for (int far : Due.FAR) {
            bad("w99,0;a1,99,1;", List.of(y -> y.order(far, 0), y -> y.order(1, far)));
        }
    }

    private static void orderOfOne() {
        DUE.sentence(21, "GUESTS in SEATS as figures of one number; how much");
        TearGuests one = Due.at("w99,0;a1,99,1;");
        DUE.is("one guest: order(10, 0)", one.order(10, 0), 0);
        DUE.is("one guest: order(10, 1)", one.order(10, 1), 10);
        TearGuests nothing = Due.at("w99,0;o1,99,1;o1,99,1;");
        DUE.is("nothing comes of any: order(10, 0)", nothing.order(10, 0), 1);
        DUE.is("nothing comes of any: order(10, 1)", nothing.order(10, 1), 0);
        String seven = "w99,0;" + "m0,0,1;".repeat(7);
        DUE.is("seven alike: order(1, 0)", Due.at(seven).order(1, 0), 123456);
        // The rival, 6, has to sit by the aunt, 5, and neither by another.
        DUE.is("seven: order(2, 0)", Due.at("w99,0;m0,0,1;m0,0,1;m0,0,1;m0,0,1;m0,0,1;a9,99,1;r0,99,1;").order(2, 0), 123456);
        DUE.is("seven: order(2, 0), 0 by 6", Due.at("w99,0;r0,99,1;m0,0,1;m0,0,1;m0,0,1;m0,0,1;m0,0,1;a9,99,1;").order(2, 0), 612345);
        DUE.is("seven: order(2, 1)", Due.at("w99,0;r0,99,1;m0,0,1;m0,0,1;m0,0,1;m0,0,1;m0,0,1;a9,99,1;").order(2, 1), 27);
    }

    private static void orderFirst() {
        DUE.sentence(21, "by which most is in THE BOTTLE behind them, of several the first (by the GUEST in SEAT 0, then 1, ..)");
        DUE.is("all bring as much", Due.at("w99,0;a1,9,1;a1,9,1;a1,9,1;").order(1, 0), 12);
        // Two rivals to the sides of the aunt, 2: 0 2 1 3 is the first.
        TearGuests x = Due.at("w99,0;r0,99,1;r0,99,1;a9,99,1;m0,0,1;");
        DUE.is("order(2, 0)", x.order(2, 0), 213);
        DUE.is("order(2, 1)", x.order(2, 1), 36);
        x.swap(0, 3);
        x.swap(1, 2);
        DUE.is("order(2, 0): wherever they sit now", x.order(2, 0), 213);
        DUE.is("order(2, 0): 0 between the others", Due.at("w99,0;a9,99,1;r0,99,1;r0,99,1;").order(2, 0), 102);
        // The dry guest first, if it brings as much: 0 1 3 2 and not 1 3 2 0.
        DUE.is("order(2, 0)", Due.at("w99,0;m0,0,1;r0,99,1;r0,99,1;a9,99,1;").order(2, 0), 132);
    }

    private static void orderAlong() {
        DUE.sentence(21, "(LAST of each goes along)");
        TearGuests x = Due.at("w99,0;a9,9,1;m0,0,1;r0,99,1;");
        x.minutes(1);
        // The aunt is dry, but the rival by her is moved by her LAST.
        DUE.is("order(1, 0)", x.order(1, 0), 21);
        DUE.is("order(1, 1)", x.order(1, 1), 18);
        DUE.is("bottle(1, 0): as they sit", x.bottle(1, 0), 9);
        x.hire(0, 0);
        DUE.is("order(1, 0): LAST of one sent home is 0", x.order(1, 0), 12);
        DUE.is("order(1, 1)", x.order(1, 1), 9);
    }

    private static void changeMinutes() {
        DUE.sentence(22, "CHANGE for n MINUTES (1 to 30)");
        TearGuests x = Due.at("w99,0;a1,99,1;m0,0,1;");
        DUE.is("change(1, 1)", x.change(1, 1), 1);
        DUE.is("change(30, 0)", x.change(30, 0), 1);
        DUE.is("change(30, 1)", x.change(30, 1), 30);
        bad("w99,0;a1,99,1;m0,0,1;", List.of(y -> y.change(0, 0), y -> y.change(31, 0), y -> y.change(-1, 0), y -> y.change(1, 2),
            y -> y.change(1, -1)));
        for (int far : Due.FAR) {
            bad("w99,0;a1,99,1;m0,0,1;", List.of(y -> y.change(far, 0), y -> y.change(1, far)));
        }
    }

    private static void changeOfOne() {
        DUE.sentence(22, "NONE: there are not two.");
        TearGuests one = Due.at("w99,0;a1,99,1;");
        for (int n : new int[] {1, 30}) {
            DUE.is("change(" + n + ", 0)", one.change(n, 0), NONE);
            DUE.is("change(" + n + ", 1)", one.change(n, 1), NONE);
        }
        bad("w99,0;a1,99,1;", List.of(y -> y.change(0, 0), y -> y.change(31, 0), y -> y.change(1, 2)));
        TearGuests two = Due.at("w99,0;o1,99,1;o1,99,1;");
        DUE.is("two of whom nothing comes", two.change(1, 0), 1);
        DUE.is("two of whom nothing comes", two.change(1, 1), 0);
    }

    private static void changeFirst() {
        DUE.sentence(22, "has most in THE BOTTLE behind them, of several the first (10 a and b)");
        DUE.is("all bring as much", Due.at("w99,0;a1,9,1;a1,9,1;a1,9,1;").change(1, 0), 1);
        // 3 sits by the aunt, 4; only if 5 and 6 change both rivals do.
        TearGuests x = Due.at("w99,0;m0,0,1;m0,0,1;m0,0,1;r0,99,1;a9,99,1;m0,0,1;r0,99,1;");
        DUE.is("change(2, 0): the last pair", x.change(2, 0), 56);
        DUE.is("change(2, 1)", x.change(2, 1), 36);
        DUE.is("bottle(2, 0): as they sit", x.bottle(2, 0), 27);
        TearGuests ends = Due.at("w99,0;r0,99,1;m0,0,1;m0,0,1;a9,99,1;m0,0,1;m0,0,1;m0,0,1;");
        // The aunt by 1 or the rival by 2 or 4: 0 2 is ahead of 0 4 and 1 3.
        DUE.is("change(2, 0): of several the first", ends.change(2, 0), 2);
        DUE.is("change(2, 1)", ends.change(2, 1), 27);
        TearGuests fine = Due.at("w99,0;m0,0,1;r0,99,1;a9,99,1;r0,99,1;m0,0,1;");
        // Best as it is; 0 and 4, both dull, change for nothing.
        DUE.is("change(2, 0): a pair in any case", fine.change(2, 0), 4);
        DUE.is("change(2, 1)", fine.change(2, 1), 36);
        fine.swap(1, 3);
        DUE.is("by GUESTS, wherever they sit", fine.change(2, 0), 4);
    }

    private static void tell(TearGuests x, int row, int... items) {
        x.row(row, 2, items.length);
        for (int k = 0; k < items.length; k++) {
            x.set(row, k, items[k]);
        }
    }

    private static void fitsMinutes() {
        DUE.sentence(23, "A row tells what a GUEST sheds in each of n MINUTES (1 to 12) from now on.");
        TearGuests x = Due.at("w99,0;a1,11,1;");
        tell(x, 0, 1, 1, 1, 1, 1, 1, 1, 1, 1, 1, 1, 0, 5);
        DUE.is("n 1", x.fits(0, 0, 0, 1, 1), 2);
        DUE.is("n 12: dry in the last", x.fits(0, 0, 0, 12, 1), 2);
        DUE.is("n 12, one further: 5 is not so", x.fits(0, 0, 1, 12, 1), 0);
        DUE.is("n 1: the last item", x.fits(0, 0, 12, 1, 1), 1 << 5);
        x.minutes(1);
        DUE.is("n 11: from now on", x.fits(0, 0, 1, 11, 1), 2);
        DUE.is("n 11: it was so before", x.fits(0, 0, 0, 11, 1), 0);
    }

    private static void fitsRefused() {
        DUE.sentence(23, "BAD: GUEST, ROW, n, what; NULL; PLACE.");
        String two = "w99,0;a1,60,1;a1,60,1;";
        List<Due.Call> calls = List.of(x -> x.fits(2, 0, 0, 1, 0), x -> x.fits(-1, 0, 0, 1, 0), x -> x.fits(0, 8, 0, 1, 0),
            x -> x.fits(0, -1, 0, 1, 0), x -> x.fits(0, 0, 0, 0, 0), x -> x.fits(0, 0, 0, 13, 0), x -> x.fits(0, 0, 0, -1, 0),
            x -> x.fits(0, 0, 0, 1, 5), x -> x.fits(0, 0, 0, 1, -1), x -> x.fits(2, 5, -1, 1, 0), x -> x.fits(0, 5, -1, 0, 0),
            x -> x.fits(0, 5, -1, 13, 0), x -> x.fits(0, 5, -1, 1, 5), x -> x.fits(0, 0, -1, 13, 0));
        for (int c = 0; c < calls.size(); c++) {
            TearGuests x = Due.at(two);
            x.row(0, 0, 40);
            DUE.is("call " + c + " of those that are BAD", calls.get(c).on(x), BAD);
        }
        for (int far : Due.FAR) {
            TearGuests x = Due.at(two);
            x.row(0, 0, 40);
            DUE.is("GUEST " + far, x.fits(far, 0, 0, 1, 0), BAD);
            DUE.is("ROW " + far, x.fits(0, far, 0, 1, 0), BAD);
            DUE.is("n " + far, x.fits(0, 0, 0, far, 0), BAD);
            DUE.is("what " + far, x.fits(0, 0, 0, 1, far), BAD);
        }
        TearGuests x = Due.at(two);
        for (int r = 0; r <= 7; r++) {
            DUE.is("NULL, ahead of PLACE", x.fits(0, r, -1, 1, 0), NULL);
        }
    }

    private static void fitsPlaces() {
        DUE.sentence(23, "n ITEMS of a ROW from i on.");
        TearGuests x = Due.at("w99,0;a0,60,1;");
        x.row(0, 0, 14);
        x.row(1, 0, 0);
        DUE.is("i 0", x.fits(0, 0, 0, 12, 1), 1);
        DUE.is("i 2: to the end", x.fits(0, 0, 2, 12, 1), 1);
        DUE.is("i 3: one beyond", x.fits(0, 0, 3, 12, 1), PLACE);
        DUE.is("i 13: the last", x.fits(0, 0, 13, 1, 1), 1);
        DUE.is("i 14", x.fits(0, 0, 14, 1, 1), PLACE);
        DUE.is("i 13, n 2", x.fits(0, 0, 13, 2, 1), PLACE);
        DUE.is("i -1", x.fits(0, 0, -1, 1, 1), PLACE);
        DUE.is("i -1, n 12", x.fits(0, 0, -1, 12, 1), PLACE);
        for (int far : Due.FAR) {
            DUE.is("i " + far, x.fits(0, 0, far, 12, 1), PLACE);
        }
        DUE.is("a row without items", x.fits(0, 1, 0, 1, 1), PLACE);
    }

    private static void fitsKinds() {
        DUE.sentence(23, "SORTS: KINDS (bits 1 to 5) of it by which it is so");
        TearGuests x = Due.at("w99,0;a0,60,1;");
        tell(x, 0, 0, 0, 0);
        DUE.is("nothing: all but an onion", x.fits(0, 0, 0, 3, 0), 0b011110);
        tell(x, 0, 2, 2, 2);
        DUE.is("2: an onion", x.fits(0, 0, 0, 3, 0), 0b100000);
        tell(x, 0, 3);
        DUE.is("3: none", x.fits(0, 0, 0, 1, 0), 0);
        TearGuests dry = Due.at("w99,0;a9,0,1;");
        tell(dry, 0, 0);
        DUE.is("a dry one: all of them", dry.fits(0, 0, 0, 1, 0), 0b111110);
        TearGuests by = Due.at("w99,0;a4,60,1;a1,60,1;");
        by.minutes(1);
        tell(by, 0, 2);
        DUE.is("by one who shed 4, START and 1: an aunt, or an onion", by.fits(1, 0, 0, 1, 0), 0b100010);
        tell(by, 0, 5);
        DUE.is("by one who shed 4, 1 more: a rival", by.fits(1, 0, 0, 1, 0), 0b000100);
        tell(by, 0, 0);
        DUE.is("nothing in an odd minute without a hymn: a child, a man", by.fits(1, 0, 0, 1, 0), 0b011000);
        for (int item : new int[] {-1, 10, 256, 1 << 8, Integer.MIN_VALUE, Integer.MAX_VALUE}) {
            tell(by, 0, item);
            DUE.is("nobody sheds " + item, by.fits(1, 0, 0, 1, 0), 0);
        }
    }

    private static void fitsStarts() {
        DUE.sentence(23, "STARTS (0 to 9, bits) of it");
        TearGuests x = Due.at("w99,0;a5,60,1;");
        for (int start = 0; start <= 9; start++) {
            tell(x, 0, start);
            DUE.is("sheds " + start, x.fits(0, 0, 0, 1, 1), 1 << start);
        }
        tell(x, 0, 10);
        DUE.is("sheds 10", x.fits(0, 0, 0, 1, 1), 0);
        TearGuests dry = Due.at("w99,0;a5,0,1;");
        tell(dry, 0, 0);
        DUE.is("a dry one: all", dry.fits(0, 0, 0, 1, 1), 1023);
        TearGuests well = Due.at("w99,0;a5,4,1;");
        tell(well, 0, 4);
        DUE.is("no more than the WELL: 4 and above", well.fits(0, 0, 0, 1, 1), 0b1111110000);
        TearGuests onion = Due.at("w99,1;o5,60,1;");
        tell(onion, 0, 9);
        DUE.is("an onion, 9 at most: 7, 8, 9", onion.fits(0, 0, 0, 1, 1), 0b1110000000);
    }

    private static void fitsHymns() {
        DUE.sentence(23, "HYMNS (0 to 15, bits)");
        for (int hymns = 0; hymns <= 15; hymns++) {
            TearGuests x = Due.at("w99,0;m3,60,1;");
            int[] items = new int[12];
            for (int m = 0; m < 12; m++) {
                items[m] = (hymns & 1 << m % 4) != 0 ? 3 : 0;
            }
            tell(x, 0, items);
            DUE.is("by 12 minutes, hymns " + hymns, x.fits(0, 0, 0, 12, 2), 1 << hymns);
            DUE.is("by 4 minutes, hymns " + hymns, x.fits(0, 0, 0, 4, 2), 1 << hymns);
            DUE.is("by 3 minutes, hymns " + hymns, x.fits(0, 0, 0, 3, 2), 1 << (hymns & 7) | 1 << (hymns & 7 | 8));
        }
        TearGuests aunt = Due.at("w99,0;a3,60,1;");
        tell(aunt, 0, 3);
        DUE.is("of an aunt: any", aunt.fits(0, 0, 0, 1, 2), 65535);
        tell(aunt, 0, 4);
        DUE.is("of an aunt: none", aunt.fits(0, 0, 0, 1, 2), 0);
        TearGuests by = Due.at("w99,0;m3,60,1;a1,60,1;");
        tell(by, 0, 1, 2);
        DUE.is("by one beside whom hymns move, in minute 0", by.fits(1, 0, 0, 2, 2), 0xaaaa);
    }

    private static void fitsWells() {
        DUE.sentence(23, "WELLS (0 to 99) of it now: how many; the least; NONE.");
        TearGuests x = Due.at("w99,0;a9,50,1;");
        wells(x, 1, 0, 0);
        wells(x, 1, 8, 8);
        wells(x, 91, 9, 9);
        wells(x, 0, NONE, 10);
        wells(x, 0, NONE, -1);
        wells(x, 1, 99, 9, 9, 9, 9, 9, 9, 9, 9, 9, 9, 9);
        wells(x, 1, 99, 9, 9, 9, 9, 9, 9, 9, 9, 9, 9, 9, 0);
        wells(x, 1, 98, 9, 9, 9, 9, 9, 9, 9, 9, 9, 9, 8);
        wells(x, 0, NONE, 9, 9, 9, 9, 9, 9, 9, 9, 9, 9, 9, 9);
        wells(x, 0, NONE, 9, 9, 9, 9, 9, 9, 9, 9, 9, 9, 9, 1);
        wells(x, 10, 90, 9, 9, 9, 9, 9, 9, 9, 9, 9, 9);
        wells(Due.at("w99,0;a0,50,1;"), 100, 0, 0);
        DUE.is("the WELL itself stays", x.guest(0, 1), 50);
    }

    private static void wells(TearGuests x, int many, int least, int... items) {
        tell(x, 0, items);
        DUE.is("how many by " + items.length + " items, the last " + items[items.length - 1], x.fits(0, 0, 0, items.length, 3), many);
        DUE.is("the least by " + items.length + " items, the last " + items[items.length - 1], x.fits(0, 0, 0, items.length, 4), least);
    }

    private static void fitsAtHome() {
        DUE.sentence(23, "the others shed nothing");
        TearGuests x = Due.at("w99,15;a9,50,1;");
        x.hire(0, 0);
        tell(x, 0, 0, 0, 0, 0, 0, 0, 0, 0, 0, 0, 0, 0);
        int[] due = {62, 1023, 65535, 100, 0};
        for (int what = 0; what <= 4; what++) {
            DUE.is("fits(0, 0, 0, 12, " + what + ")", x.fits(0, 0, 0, 12, what), due[what]);
        }
        tell(x, 0, 9);
        int[] none = {0, 0, 0, 0, NONE};
        for (int what = 0; what <= 4; what++) {
            DUE.is("fits(0, 0, 0, 1, " + what + ")", x.fits(0, 0, 0, 1, what), none[what]);
        }
    }

    private static void awayBounds() {
        DUE.sentence(24, "AWAY (c 0 to 10): above (what = 0), below (1). BAD");
        String one = "w1,0;a1,9,1;";
        bad(one, List.of(x -> x.away(-1, 0, 0), x -> x.away(31, 0, 0), x -> x.away(0, -1, 0), x -> x.away(0, 11, 0), x -> x.away(0, 0, -1),
            x -> x.away(0, 0, 2)));
        for (int far : Due.FAR) {
            bad(one, List.of(x -> x.away(far, 0, 0), x -> x.away(0, far, 0), x -> x.away(0, 0, far)));
        }
        for (int c = 0; c <= 10; c++) {
            DUE.holds("c " + c + " is fine", Due.at(one).away(1, c, 1) > 0);
        }
    }

    private static void odds(String name, TearGuests x, int[] nAndC, int above, int below) {
        DUE.is(name + ", above", x.away(nAndC[0], nAndC[1], 0), above);
        DUE.is(name + ", below", x.away(nAndC[0], nAndC[1], 1), below);
    }

    private static void awayCertain() {
        DUE.sentence(24, "each GUEST that is HIRED is sent home now by c of 10");
        TearGuests x = Due.at("w3,0;a1,9,1;a1,9,1;a1,9,1;");
        odds("c 0: all stay", x, new int[] {1, 0}, 1, 1);
        odds("c 10: none stays", x, new int[] {1, 10}, 0, 1);
        odds("c 10, n 30", x, new int[] {30, 10}, 0, 1);
        odds("c 9: all stay by 1 of 1000", x, new int[] {1, 9}, 1, 1000);
        odds("c 1: all stay by 729 of 1000", x, new int[] {1, 1}, 729, 1000);
        TearGuests onion = Due.at("w1,0;a1,9,1;o0,99,1;");
        odds("an onion that surely comes", onion, new int[] {1, 0}, 0, 1);
        TearGuests full = Due.at("w3,0;a3,3,1;");
        full.minutes(1);
        odds("full, and none stays", full, new int[] {30, 10}, 1, 1);
    }

    private static void awayLowestTerms() {
        DUE.sentence(24, "fractions, told as two numbers in lowest terms (0 is 0 by 1)");
        TearGuests one = Due.at("w1,0;a1,9,1;");
        int[][] due = {{1, 1}, {9, 10}, {4, 5}, {7, 10}, {3, 5}, {1, 2}, {2, 5}, {3, 10}, {1, 5}, {1, 10}, {0, 1}};
        for (int c = 0; c <= 10; c++) {
            odds("one guest, c " + c, one, new int[] {1, c}, due[c][0], due[c][1]);
        }
        TearGuests either = Due.at("w1,0;a1,9,1;a1,9,1;");
        odds("either of two", either, new int[] {1, 5}, 3, 4);
        odds("either of two", either, new int[] {1, 4}, 21, 25);
        odds("never", Due.at("w99,0;a1,9,1;"), new int[] {30, 5}, 0, 1);
        TearGuests seven = Due.at("w7,0;" + "a1,9,1;".repeat(7));
        odds("seven, each by 1 of 10", seven, new int[] {1, 9}, 1, 10000000);
        odds("seven, each by 9 of 10", seven, new int[] {1, 1}, 4782969, 10000000);
        odds("seven, each by 5 of 10", seven, new int[] {1, 5}, 1, 128);
        TearGuests any = Due.at("w1,0;" + "a1,9,1;".repeat(7));
        odds("any of seven", any, new int[] {1, 9}, 5217031, 10000000);
        odds("any of seven", any, new int[] {1, 5}, 127, 128);
    }

    private static void awayMinutes() {
        DUE.sentence(24, "that THE BOTTLE has NEED or more behind n MINUTES (0 to 30)");
        odds("n 30", Due.at("w30,0;a1,99,1;"), new int[] {30, 5}, 1, 2);
        odds("n 29", Due.at("w30,0;a1,99,1;"), new int[] {29, 5}, 0, 1);
        odds("n 30, one short", Due.at("w31,0;a1,99,1;"), new int[] {30, 5}, 0, 1);
        TearGuests x = Due.at("w3,0;a3,99,1;");
        odds("n 0", x, new int[] {0, 5}, 0, 1);
        x.minutes(1);
        odds("n 0, full", x, new int[] {0, 5}, 1, 1);
        // Full now, but with the onion no longer.
        TearGuests onion = Due.at("w3,0;a3,3,1;o0,99,1;");
        onion.hire(1, 0);
        onion.minutes(1);
        onion.hire(1, 1);
        odds("n 0, full", onion, new int[] {0, 3}, 1, 1);
        odds("n 1, if the onion stays away", onion, new int[] {1, 3}, 3, 10);
    }

    private static void awayHired() {
        DUE.sentence(24, "each GUEST that is HIRED is sent home now by c of 10, each by itself");
        TearGuests x = Due.at("w1,0;a1,9,1;a1,9,1;");
        x.hire(1, 0);
        odds("who is at home stays there", x, new int[] {1, 3}, 7, 10);
        x.hire(0, 0);
        odds("nobody is HIRED", x, new int[] {1, 3}, 0, 1);
        TearGuests last = Due.at("w4,0;a1,1,1;r0,99,1;");
        last.minutes(1);
        // 1 is in; the rival sheds 2 if the other, who is dry, stays, else nothing.
        odds("LAST of those sent home is 0", last, new int[] {1, 0}, 0, 1);
        TearGuests need = Due.at("w3,0;a1,1,1;r0,99,1;");
        need.minutes(1);
        odds("both have to stay", need, new int[] {1, 5}, 1, 4);
    }

    private static void drawnBounds() {
        DUE.sentence(25, "SEASON by a SEED (1 to 999999): THE BOTTLE (what = 0), PAID (1). BAD");
        String one = "w1,0;a1,99,2;";
        bad(one, List.of(x -> x.drawn(-1, 1, 0), x -> x.drawn(61, 1, 0), x -> x.drawn(0, 0, 0), x -> x.drawn(0, 1000000, 0),
            x -> x.drawn(0, -1, 0), x -> x.drawn(0, 1, -1), x -> x.drawn(0, 1, 2)));
        for (int far : Due.FAR) {
            bad(one, List.of(x -> x.drawn(far, 1, 0), x -> x.drawn(0, far, 0), x -> x.drawn(0, 1, far)));
        }
        TearGuests x = Due.at(one);
        x.minutes(3);
        DUE.is("drawn(0, 1, 0): as it is", x.drawn(0, 1, 0), 3);
        DUE.is("drawn(0, 999999, 1): as it is", x.drawn(0, 999999, 1), 6);
    }

    private static void drawnOfOne() {
        DUE.sentence(25, "the GUEST that is the rest of X by how many there are is HIRED, or sent home, if it was");
        TearGuests x = Due.at("w1,0;a1,99,2;");
        // One guest is sent home and HIRED by turns, and there is no other seat.
        for (int n : new int[] {0, 1, 2, 3, 59, 60}) {
            for (int seed : new int[] {1, 2, 127773, 127774, 999999}) {
                DUE.is("drawn(" + n + ", " + seed + ", 0)", x.drawn(n, seed, 0), n / 2);
                DUE.is("drawn(" + n + ", " + seed + ", 1)", x.drawn(n, seed, 1), n / 2 * 2);
            }
        }
        x.hire(0, 0);
        DUE.is("drawn(1, 1, 0): HIRED by the draw", x.drawn(1, 1, 0), 1);
        DUE.is("drawn(60, 1, 0)", x.drawn(60, 1, 0), 30);
    }

    private static void drawnSeats() {
        DUE.sentence(25, "those in SEATS that are the rest of X by 7, and 1 more, change, if there are both");
        // Seed 200000 draws 1213916353: by 7 it leaves 6. Guest 6 goes home; there is no SEAT 7, and SEAT 0 is not beside it.
        TearGuests seven = Due.at("w99,0;a9,99,1;m0,0,1;m0,0,1;m0,0,1;m0,0,1;r0,99,1;m0,0,1;");
        seven.minutes(1);
        DUE.is("SEATS 6 and 7 of seven", seven.drawn(1, 200000, 0), 18);
        // Seed 300000 draws 747132706: by 7 it leaves 5. Guest 5 goes home, SEATS 5 and 6 change: both rivals sit by the aunt, 4.
        TearGuests last = Due.at("w99,0;m0,0,1;m0,0,1;m0,0,1;r0,99,1;a9,99,1;m0,0,1;r0,99,1;");
        last.minutes(1);
        DUE.is("SEATS 5 and 6 of seven", last.drawn(1, 300000, 0), 9 + 27);
        // By 6 it leaves 4, who goes home; there is no SEAT 6.
        TearGuests six = Due.at("w99,0;a9,99,1;m0,0,1;m0,0,1;m0,0,1;m0,0,1;r0,99,1;");
        six.minutes(1);
        DUE.is("SEATS 5 and 6 of six", six.drawn(1, 300000, 0), 18);
        // Seed 1 draws 16807: by 3 it leaves 1, by 7 nothing. The dull one goes home, and the rival sits by her that shed 5.
        TearGuests three = Due.at("w99,0;r1,99,1;m0,0,1;a5,99,1;");
        three.minutes(1);
        DUE.is("SEATS 0 and 1 of three", three.drawn(1, 1, 0), 6 + 6 + 6);
    }

    private static void drawnRests() {
        DUE.sentence(25, "ahead of each X becomes the rest of (X times 16807) by 2147483647");
        // X is 16807, 282475249, 1622650073: by 7 they leave 0, 0, 2, so that 1 of 28, none, then 3 are missing.
        TearGuests x = Due.at("w99,15;m1,99,1;m2,99,2;m3,99,3;m4,99,4;m5,99,5;m6,99,6;m7,99,7;");
        DUE.is("drawn(1, 1, 0)", x.drawn(1, 1, 0), 27);
        DUE.is("drawn(2, 1, 0)", x.drawn(2, 1, 0), 27 + 28);
        DUE.is("drawn(3, 1, 0)", x.drawn(3, 1, 0), 27 + 28 + 25);
        DUE.is("drawn(3, 1, 1)", x.drawn(3, 1, 1), 139 + 140 + 131);
        // 127773 times 16807 is 2147480811, the last below; 127774 times it is 2147497618, of which 13971 are left.
        DUE.is("drawn(1, 127773, 0): by 7 it leaves 0", x.drawn(1, 127773, 0), 27);
        DUE.is("drawn(1, 127774, 0): by 7 it leaves 6", x.drawn(1, 127774, 0), 21);
        // 999999 times 16807 is 16806983193, of which 1774597664 are left: by 7 nothing.
        DUE.is("drawn(1, 999999, 0)", x.drawn(1, 999999, 0), 27);
    }

    private static void imageBounds() {
        DUE.sentence(26, "An IMAGE (0, 1) is kept of the WEDDING: 1. BAD; STATE: no WEDDING.");
        TearGuests none = new TearGuests();
        DUE.is("no wedding: image(0)", none.image(0), STATE);
        DUE.is("no wedding: image(1)", none.image(1), STATE);
        DUE.is("no wedding: image(2), BAD is ahead", none.image(2), BAD);
        DUE.is("no wedding: image(-1), BAD is ahead", none.image(-1), BAD);
        TearGuests x = Due.at("w1,0;a1,9,1;");
        DUE.is("image(0)", x.image(0), 1);
        DUE.is("image(1)", x.image(1), 1);
        DUE.is("image(2)", x.image(2), BAD);
        DUE.is("image(-1)", x.image(-1), BAD);
        for (int far : Due.FAR) {
            DUE.is("image(" + far + ")", x.image(far), BAD);
        }
    }

    private static void imageKept() {
        DUE.sentence(26, "An IMAGE (0, 1) is kept of the WEDDING");
        TearGuests x = Due.at("w50,5;a1,90,1;r2,90,2;c3,90,3;");
        x.image(0);
        x.minutes(2);
        x.swap(0, 2);
        x.hire(1, 0);
        x.hymns(9);
        x.image(1);
        DUE.is("count(8): ACTS can be undone yet", x.count(8), 5);
        String kept = of(x);
        Due.read(x, "w1,1;m1,1,1;");
        DUE.is("restore(1): over another wedding", x.restore(1), 1);
        DUE.holds("as it was kept", of(x).equals(kept));
        DUE.is("restore(0): the other", x.restore(0), 1);
        DUE.is("MINUTE", x.count(2), 0);
        DUE.is("HYMNS", x.count(4), 5);
        x.minutes(1);
        x.image(1);
        x.minutes(5);
        DUE.is("restore(1)", x.restore(1), 1);
        DUE.is("MINUTE: in place of what was kept", x.count(2), 1);
        DUE.is("undo(): what is undone is no IMAGE", x.undo(), STATE);
    }

    /** All of a wedding, but how many ACTS can be undone. */
    private static String of(TearGuests x) {
        StringBuilder b = new StringBuilder();
        for (int what = 1; what <= 7; what++) {
            b.append(x.count(what)).append(' ');
        }
        for (int g = 0; g < 7; g++) {
            b.append(x.kind(g)).append(' ').append(x.seat(g)).append(' ');
            for (int what = 0; what <= 6; what++) {
                b.append(x.guest(g, what)).append(' ');
            }
        }
        return b.toString();
    }

    private static void restoreNone() {
        DUE.sentence(27, "BAD; STATE: none was kept.");
        TearGuests x = new TearGuests();
        DUE.is("no wedding: restore(0)", x.restore(0), STATE);
        DUE.is("no wedding: restore(2), BAD is ahead", x.restore(2), BAD);
        DUE.is("no wedding: restore(-1), BAD is ahead", x.restore(-1), BAD);
        x.image(0);
        Due.read(x, "w1,1;m1,1,1;");
        DUE.is("restore(0): what was refused is not kept", x.restore(0), STATE);
        x.minutes(2);
        x.image(1);
        DUE.is("restore(0): the other was kept", x.restore(0), STATE);
        DUE.is("count(8): ACTS stay", x.count(8), 2);
        DUE.is("restore(2)", x.restore(2), BAD);
        DUE.is("restore(-1)", x.restore(-1), BAD);
        for (int far : Due.FAR) {
            DUE.is("restore(" + far + ")", x.restore(far), BAD);
        }
        DUE.is("restore(1)", x.restore(1), 1);
        DUE.is("restore(1): as often as one likes", x.restore(1), 1);
    }

    private static void restoreForgets() {
        DUE.sentence(27, "The WEDDING is as an IMAGE kept it (no ACT can be undone then): 1.");
        TearGuests x = Due.at("w50,5;a1,90,1;");
        x.image(0);
        x.minutes(24);
        DUE.is("restore(0)", x.restore(0), 1);
        DUE.is("count(8)", x.count(8), 0);
        DUE.is("undo()", x.undo(), STATE);
        x.minutes(2);
        DUE.is("undo(): ACTS since then", x.undo(), 1);
        DUE.is("undo()", x.undo(), 0);
        DUE.is("undo()", x.undo(), STATE);
        DUE.is("MINUTE", x.count(2), 0);
        x.image(1);
        x.minutes(1);
        x.image(1);
        DUE.is("count(8): to keep one forgets none", x.count(8), 1);
    }
}
