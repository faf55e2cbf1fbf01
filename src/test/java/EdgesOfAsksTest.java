import java.util.List;

/** Promises 28 to 31: each sentence that names an edge of kinds, of asks, or of the trace. */
public final class EdgesOfAsksTest {
    private static final int BAD = TearGuests.BAD, NONE = TearGuests.NONE;
    private static final int KIND = -1000013;
    /** An aunt, a rival, a child, a man, one with an onion, an aunt, a man. */
    private static final String SEVEN = "w30,5;a2,20,3;r1,30,2;c4,15,1;m5,40,4;o1,9,2;a9,0,9;m0,99,0;";
    private static final Due DUE = new Due();

    public static void main(String[] args) {
        kindBounds();
        kindsTold();
        asBounds();
        asKinds();
        askBounds();
        askNearest();
        askLeast();
        askGreatest();
        traceEmptyAhead();
        traceBounds();
        traceOfRefused();
        traceStays();
        DUE.end();
    }

    private static void kindBounds() {
        DUE.sentence(28, "The KIND of a GUEST, as told (1 to 5). BAD.");
        for (int guests = 1; guests <= 7; guests++) {
            TearGuests x = Due.at("w9,0;" + "o1,9,1;".repeat(guests));
            DUE.is("the last", x.kind(guests - 1), 5);
            DUE.is("one beyond", x.kind(guests), BAD);
            DUE.is("kind(-1)", x.kind(-1), BAD);
            for (int far : Due.FAR) {
                DUE.is("kind(" + far + ")", x.kind(far), BAD);
            }
        }
        DUE.is("no wedding", new TearGuests().kind(0), BAD);
    }

    private static void kindsTold() {
        DUE.sentence(28, "as told (1 to 5)");
        TearGuests x = Due.at(SEVEN);
        int[] due = {1, 2, 3, 4, 5, 1, 4};
        for (int g = 0; g < 7; g++) {
            DUE.is("kind(" + g + ")", x.kind(g), due[g]);
            x.hire(g, 0);
            DUE.is("kind(" + g + "): at home, too", x.kind(g), due[g]);
        }
        x.swap(0, 4);
        DUE.is("kind(0): by GUEST, not by SEAT", x.kind(0), 1);
        DUE.is("kind(4)", x.kind(4), 5);
    }

    private static void asBounds() {
        DUE.sentence(29, "A GUEST is taken as one of a KIND (0 .. 5): its number. BAD");
        TearGuests x = Due.at(SEVEN);
        List<Due.Call> bad = List.of(y -> y.as(7, 0), y -> y.as(-1, 0), y -> y.as(0, 6), y -> y.as(0, -1), y -> y.as(7, 6), y -> y.as(3, 6));
        for (int c = 0; c < bad.size(); c++) {
            DUE.is("BAD, " + c, bad.get(c).on(x), BAD);
        }
        for (int far : Due.FAR) {
            DUE.is("as(" + far + ", 0)", x.as(far, 0), BAD);
            DUE.is("as(0, " + far + ")", x.as(0, far), BAD);
        }
        DUE.is("status(): BAD is no FINDING", x.status(), 0);
        DUE.is("no wedding", new TearGuests().as(0, 0), BAD);
        DUE.is("one guest: as(1, 0)", Due.at("w9,0;a1,1,1;").as(1, 0), BAD);
    }

    private static void asKinds() {
        DUE.sentence(29, "KIND: it is no such one.");
        boolean[][] is = {
            {true, true, false, false, false, false},
            {true, true, true, false, false, false},
            {true, true, false, true, false, false},
            {true, false, false, false, true, false},
            {true, false, false, false, true, true}};
        TearGuests x = Due.at(SEVEN);
        for (int g = 0; g < 7; g++) {
            for (int kind = 0; kind <= 5; kind++) {
                boolean such = is[x.kind(g) - 1][kind];
                DUE.is("as(" + g + ", " + kind + ")", x.as(g, kind), such ? g : KIND);
                DUE.is("status()", x.status(), such ? 0 : 3);
            }
        }
    }

    private static void askBounds() {
        DUE.sentence(30, "An ASK (0, 1) of a GUEST. BAD.");
        TearGuests x = Due.at(SEVEN);
        DUE.is("ask(7, 0)", x.ask(7, 0), BAD);
        DUE.is("ask(-1, 1)", x.ask(-1, 1), BAD);
        DUE.is("ask(0, 2)", x.ask(0, 2), BAD);
        DUE.is("ask(0, -1)", x.ask(0, -1), BAD);
        for (int far : Due.FAR) {
            DUE.is("ask(" + far + ", 0)", x.ask(far, 0), BAD);
            DUE.is("ask(0, " + far + ")", x.ask(0, far), BAD);
        }
        DUE.is("no wedding", new TearGuests().ask(0, 0), BAD);
        DUE.is("one guest: ask(1, 0)", Due.at("w9,0;a1,1,1;").ask(1, 0), BAD);
        DUE.is("the last guest", x.ask(6, 0), -100);
    }

    private static void asked(TearGuests x, int guest, int what, int due, int... bodies) {
        DUE.is("ask(" + guest + ", " + what + ")", x.ask(guest, what), due);
        for (int i = 0; i < 18; i++) {
            DUE.is("ask(" + guest + ", " + what + "): trace(" + i + ")", x.trace(i), i < bodies.length ? bodies[i] : NONE);
        }
    }

    private static void askNearest() {
        DUE.sentence(30, "the BODY told for the KIND begins, else that of the nearest KIND that it is, too");
        TearGuests x = Due.at(SEVEN);
        // There is no SIZE of CHILDREN, nor a MARK of ONIONS; MARK, SIZE within are theirs all the same.
        asked(x, 2, 0, 4 + (2 + 15 - 1000), 11, 10, 22, 21, 20);
        asked(x, 4, 1, 4 - 2 * (1 - 100), 23, 20, 14, 13, 10);
        asked(x, 1, 0, -(1 + 2 * (1 + 30)), 12, 11, 10, 24, 21, 20);
        asked(x, 3, 1, 3 - (5 - 100), 23, 20, 13, 10);
    }

    private static void askLeast() {
        DUE.sentence(30, "Numbers go from 0 on.");
        for (char sort : "arcmo".toCharArray()) {
            TearGuests x = Due.at("w9,0;" + sort + "0,0,0;");
            DUE.is(sort + " of nothing: SIZE", x.ask(0, 0), sort == 'c' ? -1000 : sort == 'm' ? -100 : sort == 'o' ? -200 : 0);
            DUE.is(sort + " of nothing: MARK", x.ask(0, 1), sort == 'c' ? -1000 : sort == 'm' ? 100 : sort == 'o' ? 200 : 0);
        }
    }

    private static void askGreatest() {
        DUE.sentence(30, "SIZE, MARK within others are asked of the same GUEST anew.");
        int[] sizes = {9 + 105, -(9 + 210), 9 + 105 - 1000, -91, -182};
        int[] marks = {105, 210, 105 - 1000, 6 + 91, 6 + 182};
        for (int kind = 1; kind <= 5; kind++) {
            TearGuests x = Due.at("w9,0;" + "m0,0,0;".repeat(6) + "arcmo".charAt(kind - 1) + "9,99,9;");
            DUE.is("SIZE of a KIND " + kind, x.ask(6, 0), sizes[kind - 1]);
            DUE.is("MARK of a KIND " + kind, x.ask(6, 1), marks[kind - 1]);
        }
        TearGuests x = Due.at("w9,0;a9,99,9;");
        x.minutes(2);
        DUE.is("the WELL is what is left in it", x.ask(0, 1), 81);
    }

    private static void traceEmptyAhead() {
        DUE.sentence(30, "THE TRACE is empty ahead of it.");
        TearGuests x = Due.at(SEVEN);
        asked(x, 1, 0, -63, 12, 11, 10, 24, 21, 20);
        // A shorter one leaves nothing of a longer one.
        asked(x, 3, 0, -95, 13, 10);
        asked(x, 5, 1, 5, 21, 20);
    }

    private static void traceBounds() {
        DUE.sentence(31, "Number i of THE TRACE; NONE.");
        TearGuests x = new TearGuests();
        DUE.is("no wedding: trace(0)", x.trace(0), NONE);
        DUE.is("no wedding: trace(-1)", x.trace(-1), NONE);
        Due.read(x, SEVEN);
        DUE.is("nothing was asked: trace(0)", x.trace(0), NONE);
        x.ask(1, 0);
        DUE.is("trace(0)", x.trace(0), 12);
        DUE.is("trace(5): the last", x.trace(5), 20);
        DUE.is("trace(6): one beyond", x.trace(6), NONE);
        DUE.is("trace(15)", x.trace(15), NONE);
        DUE.is("trace(16)", x.trace(16), NONE);
        DUE.is("trace(-1)", x.trace(-1), NONE);
        for (int far : Due.FAR) {
            DUE.is("trace(" + far + ")", x.trace(far), NONE);
        }
    }

    private static void traceOfRefused() {
        DUE.sentence(31, "What is refused, or found, changes nothing but status().");
        TearGuests x = Due.at(SEVEN);
        x.ask(3, 1);
        x.ask(7, 0);
        x.ask(0, 2);
        x.ask(-1, -1);
        int[] due = {23, 20, 13, 10, NONE};
        for (int i = 0; i < due.length; i++) {
            DUE.is("trace(" + i + ")", x.trace(i), due[i]);
        }
    }

    private static void traceStays() {
        DUE.sentence(31, "Number i of THE TRACE");
        TearGuests x = Due.at(SEVEN);
        x.ask(4, 0);
        x.kind(0);
        x.as(0, 1);
        x.as(0, 2);
        x.minutes(1);
        x.undo();
        x.hiring(3, 0);
        x.image(0);
        x.restore(0);
        Due.read(x, "w9,0;a1,1,1;");
        Due.read(x, "w");
        int[] due = {14, 13, 10, NONE};
        for (int i = 0; i < due.length; i++) {
            DUE.is("trace(" + i + ")", x.trace(i), due[i]);
        }
    }
}
