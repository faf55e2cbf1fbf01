/** Promises 28 to 31: kinds, asks and the trace. */
public final class AskedTest {
    private static final int BAD = TearGuests.BAD, NONE = TearGuests.NONE;
    private static final Due DUE = new Due();

    public static void main(String[] args) {
        kind();
        as();
        ask();
        trace();
        DUE.end();
    }

    /** Guests 0 .. 6 are an aunt, a rival, a child, a man, one with an onion, a man, an aunt. */
    private static TearGuests guests() {
        return Due.at("w30,5;a2,20,3;r1,30,2;c4,15,1;m5,40,4;o3,9,2;m0,1,1;a9,99,9;");
    }

    private static void kind() {
        DUE.promise(28);
        TearGuests x = guests();
        int[] due = {1, 2, 3, 4, 5, 4, 1};
        for (int g = 0; g < 7; g++) {
            DUE.is("kind(" + g + ")", x.kind(g), due[g]);
        }
        x.swap(0, 1);
        DUE.is("kind(0): wherever it sits", x.kind(0), 1);
        DUE.is("kind(7)", x.kind(7), BAD);
        DUE.is("kind(-1)", x.kind(-1), BAD);
        DUE.is("no wedding", new TearGuests().kind(0), BAD);
    }

    private static void as() {
        DUE.promise(29);
        TearGuests x = guests();
        int[] kindsOf = {0b000011, 0b000111, 0b001011, 0b010001, 0b110001, 0b010001, 0b000011};
        for (int g = 0; g < 7; g++) {
            for (int kind = 0; kind <= 5; kind++) {
                int due = (kindsOf[g] >> kind & 1) == 1 ? g : -1000013;
                DUE.is("as(" + g + ", " + kind + ")", x.as(g, kind), due);
                DUE.is("status()", x.status(), due == g ? 0 : 3);
            }
        }
        DUE.is("as(0, 6)", x.as(0, 6), BAD);
        DUE.is("as(0, -1)", x.as(0, -1), BAD);
        DUE.is("as(7, 0)", x.as(7, 0), BAD);
        DUE.is("as(-1, 0)", x.as(-1, 0), BAD);
        DUE.is("no wedding", new TearGuests().as(0, 0), BAD);
    }

    private static void ask() {
        DUE.promise(30);
        TearGuests x = guests();
        asked(x, 0, 0, 2 + 20, 11, 10, 21, 20);
        asked(x, 0, 1, 20, 21, 20);
        asked(x, 1, 0, -(1 + 62), 12, 11, 10, 24, 21, 20);
        asked(x, 1, 1, 62, 24, 21, 20);
        asked(x, 2, 0, 4 + 17 - 1000, 11, 10, 22, 21, 20);
        asked(x, 2, 1, 17 - 1000, 22, 21, 20);
        asked(x, 3, 0, 5 - 100, 13, 10);
        asked(x, 3, 1, 3 + 95, 23, 20, 13, 10);
        asked(x, 4, 0, 2 * (3 - 100), 14, 13, 10);
        asked(x, 4, 1, 4 + 194, 23, 20, 14, 13, 10);
        asked(x, 6, 0, 9 + 6 + 99, 11, 10, 21, 20);
        x.minutes(1);
        asked(x, 0, 1, 18, 21, 20);
        DUE.is("ask(7, 0)", x.ask(7, 0), BAD);
        DUE.is("ask(-1, 0)", x.ask(-1, 0), BAD);
        DUE.is("ask(0, 2)", x.ask(0, 2), BAD);
        DUE.is("ask(0, -1)", x.ask(0, -1), BAD);
        DUE.is("trace(0): what is refused changes nothing", x.trace(0), 21);
        DUE.is("no wedding", new TearGuests().ask(0, 0), BAD);
    }

    private static void asked(TearGuests x, int guest, int what, int due, int... bodies) {
        DUE.is("ask(" + guest + ", " + what + ")", x.ask(guest, what), due);
        for (int i = 0; i < bodies.length; i++) {
            DUE.is("ask(" + guest + ", " + what + "): trace(" + i + ")", x.trace(i), bodies[i]);
        }
        DUE.is("ask(" + guest + ", " + what + "): no more", x.trace(bodies.length), NONE);
    }

    private static void trace() {
        DUE.promise(31);
        TearGuests x = guests();
        DUE.is("trace(0): none at first", x.trace(0), NONE);
        x.ask(3, 0);
        DUE.is("trace(1)", x.trace(1), 10);
        DUE.is("trace(2)", x.trace(2), NONE);
        DUE.is("trace(-1)", x.trace(-1), NONE);
        DUE.is("trace(16)", x.trace(16), NONE);
        DUE.is("trace(MAX)", x.trace(Integer.MAX_VALUE), NONE);
        DUE.is("trace(MIN)", x.trace(Integer.MIN_VALUE), NONE);
        Due.read(x, "w1,0;a0,0,0;");
        DUE.is("trace(0): a wedding leaves it", x.trace(0), 13);
    }
}
