/** Promises 16 to 27: what is foretold, planned, guessed and drawn, and images. */
public final class ForetoldTest {
    private static final int BAD = TearGuests.BAD, STATE = TearGuests.STATE, NONE = TearGuests.NONE;
    private static final Due DUE = new Due();

    public static void main(String[] args) {
        withoutWedding();
        ahead();
        bottle();
        filled();
        dry();
        hiring();
        order();
        change();
        fits();
        fitsOneByOne();
        away();
        drawn();
        images();
        nothingChanges();
        DUE.end();
    }

    private static void withoutWedding() {
        TearGuests x = new TearGuests();
        DUE.promise(16);
        DUE.is("ahead", x.ahead(0, 0, 0), BAD);
        DUE.promise(17);
        DUE.is("bottle", x.bottle(61, 2), STATE);
        DUE.promise(18);
        DUE.is("filled", x.filled(), STATE);
        DUE.promise(19);
        DUE.is("dry", x.dry(2), STATE);
        DUE.promise(20);
        DUE.is("hiring", x.hiring(0, 2), STATE);
        DUE.promise(21);
        DUE.is("order", x.order(0, 2), STATE);
        DUE.promise(22);
        DUE.is("change", x.change(0, 2), STATE);
        DUE.promise(23);
        DUE.is("fits", x.fits(0, 0, 0, 1, 0), BAD);
        DUE.promise(24);
        DUE.is("away", x.away(-1, 11, 2), STATE);
        DUE.promise(25);
        DUE.is("drawn", x.drawn(-1, 0, 2), STATE);
        DUE.promise(26);
        DUE.is("image", x.image(1), STATE);
        DUE.is("image: BAD is first", x.image(-1), BAD);
        DUE.promise(27);
        DUE.is("restore", x.restore(1), STATE);
        DUE.is("restore: BAD is first", x.restore(2), BAD);
    }

    private static void ahead() {
        DUE.promise(16);
        TearGuests x = Due.at("w10,0;a1,5,1;a0,50,2;");
        DUE.is("ahead(0, 0, 0)", x.ahead(0, 0, 0), 0);
        DUE.is("ahead(0, 0, 1)", x.ahead(0, 0, 1), 5);
        DUE.is("ahead(0, 2, 0)", x.ahead(0, 2, 0), 1);
        DUE.is("ahead(0, 3, 0)", x.ahead(0, 3, 0), 2);
        DUE.is("ahead(0, 3, 1)", x.ahead(0, 3, 1), 1);
        DUE.is("ahead(0, 4, 0)", x.ahead(0, 4, 0), 1);
        DUE.is("ahead(0, 60, 0)", x.ahead(0, 60, 0), 0);
        DUE.is("ahead(1, 60, 1): 1 in minutes 1 to 4", x.ahead(1, 60, 1), 46);
        x.minutes(2);
        DUE.is("ahead(0, 0, 0)", x.ahead(0, 0, 0), 1);
        DUE.is("ahead(0, 1, 0)", x.ahead(0, 1, 0), 2);
        DUE.is("ahead(2, 0, 0)", x.ahead(2, 0, 0), BAD);
        DUE.is("ahead(-1, 0, 0)", x.ahead(-1, 0, 0), BAD);
        DUE.is("ahead(0, 61, 0)", x.ahead(0, 61, 0), BAD);
        DUE.is("ahead(0, -1, 0)", x.ahead(0, -1, 0), BAD);
        DUE.is("ahead(0, 0, 2)", x.ahead(0, 0, 2), BAD);
        DUE.is("ahead(0, 0, -1)", x.ahead(0, 0, -1), BAD);
    }

    private static void bottle() {
        DUE.promise(17);
        TearGuests x = Due.at("w10,0;a3,50,2;o0,7,1;");
        int[] bottles = {0, 1, 3, 5, 8};
        // The onion makes the aunt weep 1 more as long as it weeps itself: 2, 2, 2, 1.
        int[] in = {0, 3, 7, 11, 15};
        int[] off = {0, 2, 4, 6, 7};
        for (int d = 0; d <= 4; d++) {
            DUE.is("bottle(" + d + ", 0)", x.bottle(d, 0), in[d] - off[d]);
            DUE.is("bottle(" + d + ", 0)", x.bottle(d, 0), bottles[d]);
            DUE.is("bottle(" + d + ", 1)", x.bottle(d, 1), 2 * in[d]);
        }
        DUE.is("bottle(60, 0)", x.bottle(60, 0), 43);
        DUE.is("bottle(61, 0)", x.bottle(61, 0), BAD);
        DUE.is("bottle(-1, 0)", x.bottle(-1, 0), BAD);
        DUE.is("bottle(0, 2)", x.bottle(0, 2), BAD);
        DUE.is("bottle(0, -1)", x.bottle(0, -1), BAD);
    }

    private static void filled() {
        DUE.promise(18);
        DUE.is("in the sixtieth", Due.at("w60,0;a1,99,1;").filled(), 60);
        DUE.is("one late", Due.at("w61,0;a1,99,1;").filled(), NONE);
        DUE.is("never", Due.at("w10,0;a2,9,1;").filled(), NONE);
        DUE.is("just full", Due.at("w9,0;a2,9,1;").filled(), 5);
        DUE.is("full for a while: first", Due.at("w5,0;a9,9,1;o1,50,1;").filled(), 1);
        TearGuests x = Due.at("w5,0;a9,9,1;o1,50,1;");
        x.minutes(1);
        DUE.is("full now", x.filled(), 0);
        x.minutes(3);
        DUE.is("it was", x.filled(), NONE);
    }

    private static void dry() {
        DUE.promise(19);
        TearGuests x = Due.at("w5,0;a1,60,1;a1,61,1;");
        x.hire(0, 0);
        DUE.is("dry(0): 61 ones", x.dry(0), NONE);
        DUE.is("dry(1)", x.dry(1), NONE);
        x.minutes(1);
        DUE.is("dry(0): in the sixtieth", x.dry(0), 1);
        DUE.is("dry(1)", x.dry(1), 60);
        DUE.is("dry(2)", x.dry(2), BAD);
        DUE.is("dry(-1)", x.dry(-1), BAD);
        TearGuests y = Due.at("w5,0;a0,9,1;c2,4,1;c2,4,1;m1,0,1;");
        DUE.is("dry(0): empty at first", y.dry(0), 3);
        DUE.is("dry(1)", y.dry(1), 0);
        y.hire(3, 0);
        DUE.is("dry(0): of several the least", y.dry(0), 1);
        DUE.is("dry(1)", y.dry(1), 3);
        TearGuests z = Due.at("w5,0;a2,4,1;");
        z.hire(0, 0);
        DUE.is("nobody HIRED", z.dry(0), NONE);
    }

    private static void hiring() {
        DUE.promise(20);
        TearGuests x = Due.at("w6,0;a3,20,5;a2,20,3;a1,20,2;");
        // In two minutes: alone 6 (30), 4 (12), 2 (4); 1 with 2: 2+1, 3+2 = 8 (2*3 + 2 + 3*3 + 2*2 = 21).
        DUE.is("hiring(2, 0)", x.hiring(2, 0), 6);
        DUE.is("hiring(2, 1)", x.hiring(2, 1), 21);
        DUE.is("hiring(1, 0): all of them", x.hiring(1, 0), 7);
        DUE.is("hiring(1, 1)", x.hiring(1, 1), 23);
        DUE.is("hiring(30, 0)", x.hiring(30, 0), 4);
        DUE.is("hiring(30, 1)", x.hiring(30, 1), 40);
        DUE.is("hiring(3, 0): 2 for 3 minutes", x.hiring(3, 0), 2);
        DUE.is("hiring(3, 1)", x.hiring(3, 1), 18);
        for (int[] wrong : new int[][] {{0, 0}, {31, 0}, {-1, 0}, {1, 2}, {1, -1}}) {
            DUE.is("hiring BAD", x.hiring(wrong[0], wrong[1]), BAD);
        }
        DUE.is("never", Due.at("w99,0;a3,98,5;").hiring(30, 0), NONE);
        DUE.is("never", Due.at("w99,0;a3,98,5;").hiring(30, 1), NONE);
        hiringOfSeveral();
    }

    private static void hiringOfSeveral() {
        TearGuests free = Due.at("w3,0;a2,20,0;a2,20,0;a4,20,0;a4,20,0;");
        DUE.is("as cheap: the fewest, then the least bits", free.hiring(1, 0), 4);
        DUE.is("PAID", free.hiring(1, 1), 0);
        TearGuests full = Due.at("w3,0;a4,20,2;o9,99,0;");
        full.minutes(1);
        full.hire(1, 0);
        full.minutes(1);
        DUE.is("full already: nobody", full.hiring(30, 0), 0);
        DUE.is("PAID then is what was PAID", full.hiring(30, 1), full.count(6));
        DUE.is("PAID was", full.count(6), 2 * (4 + 5 - 1));
        TearGuests last = Due.at("w6,0;a1,20,0;a3,20,9;");
        last.minutes(1);
        // 4 now; 0 alone, for nothing, sheds 1; it would be 2, and do, were the other's LAST not 0 then.
        DUE.is("LAST of those sent home is 0", last.hiring(1, 0), 2);
        DUE.is("PAID then, with what was PAID", last.hiring(1, 1), 27 + 27);
        TearGuests home = Due.at("w2,0;a2,20,1;");
        home.hire(0, 0);
        DUE.is("those at home can be HIRED", home.hiring(1, 0), 1);
    }

    private static void order() {
        DUE.promise(21);
        TearGuests one = Due.at("w2,0;a2,20,1;");
        DUE.is("one guest", one.order(1, 0), 0);
        DUE.is("one guest: how much", one.order(3, 1), 6);
        TearGuests x = Due.at("w2,0;a0,50,1;a1,50,1;a0,50,1;");
        // The middle is best for guest 1: then 1; 1+2; 3+2.
        DUE.is("order(1, 0): all alike, the first", x.order(1, 0), 12);
        DUE.is("order(2, 0)", x.order(2, 0), 12);
        DUE.is("order(2, 1)", x.order(2, 1), 1 + 3);
        x.swap(0, 1);
        DUE.is("order(2, 0): wherever they sit", x.order(2, 0), 12);
        TearGuests y = Due.at("w2,0;a9,50,1;r0,50,1;a0,0,1;");
        // A rival by her that sheds 9 sheds 9 next; so 012, or 102, 201.
        DUE.is("order(2, 0)", y.order(2, 0), 12);
        DUE.is("order(2, 1)", y.order(2, 1), 27);
        y.swap(1, 2);
        DUE.is("bottle(2, 0): apart", y.bottle(2, 0), 18);
        TearGuests z = Due.at("w2,0;r0,50,1;m0,0,1;a9,50,1;");
        DUE.is("order(2, 0): the first of those that bring as much", z.order(2, 0), 21);
        DUE.is("order(2, 1)", z.order(2, 1), 27);
        z.minutes(1);
        DUE.is("LAST goes along", z.order(1, 0), 21);
        DUE.is("LAST goes along: how much", z.order(1, 1), 27);
        for (int[] wrong : new int[][] {{0, 0}, {11, 0}, {-1, 0}, {1, 2}, {1, -1}}) {
            DUE.is("order BAD", x.order(wrong[0], wrong[1]), BAD);
        }
        TearGuests seven = Due.at("w2,0;m0,9,1;m0,9,1;m0,9,1;m0,9,1;m0,9,1;r0,9,1;a9,99,1;");
        DUE.is("seven", seven.order(2, 0), 123456);
        DUE.is("seven: as they brought", seven.order(10, 1), seven.bottle(10, 0));
    }

    private static void change() {
        DUE.promise(22);
        TearGuests one = Due.at("w2,0;a2,20,1;");
        DUE.is("one guest", one.change(1, 0), NONE);
        DUE.is("one guest", one.change(1, 1), NONE);
        DUE.is("one guest: BAD is first", one.change(0, 0), BAD);
        TearGuests x = Due.at("w2,0;r0,50,1;m0,0,1;a9,50,1;");
        DUE.is("change(2, 0)", x.change(2, 0), 1);
        DUE.is("change(2, 1)", x.change(2, 1), 27);
        DUE.is("change(1, 0): all alike, the first", x.change(1, 0), 1);
        DUE.is("change(1, 1)", x.change(1, 1), 9);
        TearGuests y = Due.at("w2,0;m0,0,1;r0,50,1;m0,0,1;a9,50,1;");
        DUE.is("change(2, 0): 0 and 3", y.change(2, 0), 3);
        TearGuests z = Due.at("w2,0;a9,50,1;m0,0,1;r0,50,1;");
        DUE.is("change(2, 0): 0 and 1", z.change(2, 0), 1);
        TearGuests last = Due.at("w2,0;m0,0,1;m0,0,1;m0,0,1;a0,50,1;m0,0,1;a1,50,1;");
        DUE.is("2 and 5 bring as much as 3 and 4", last.change(2, 0), 25);
        for (int[] wrong : new int[][] {{0, 0}, {31, 0}, {-1, 0}, {1, 2}, {1, -1}}) {
            DUE.is("change BAD", x.change(wrong[0], wrong[1]), BAD);
        }
        DUE.is("change(30, 1)", x.change(30, 1), 100);
    }

    private static void fits() {
        DUE.promise(23);
        TearGuests x = Due.at("w2,5;a2,20,1;c1,20,1;");
        x.row(0, 2, 40);
        x.row(1, 0, 40);
        for (int[] wrong : new int[][] {{2, 0, 0, 1, 0}, {-1, 0, 0, 1, 0}, {0, 8, 0, 1, 0}, {0, -1, 0, 1, 0},
            {0, 0, 0, 0, 0}, {0, 0, 0, 13, 0}, {0, 0, 0, 1, 5}, {0, 0, 0, 1, -1}, {0, 5, 0, 13, 0}}) {
            DUE.is("fits BAD", x.fits(wrong[0], wrong[1], wrong[2], wrong[3], wrong[4]), BAD);
        }
        DUE.is("NULL", x.fits(0, 5, 99, 1, 0), -1000011);
        DUE.is("PLACE", x.fits(0, 0, -1, 1, 0), -1000012);
        DUE.is("PLACE", x.fits(0, 0, 29, 12, 0), -1000012);
        DUE.is("PLACE", x.fits(0, 0, Integer.MAX_VALUE, 12, 0), -1000012);
        DUE.is("the last twelve", x.fits(0, 0, 28, 12, 1), 0);
        tell(x, 1, 3, 2, 3, 2, 3);
        DUE.is("an aunt, or a rival", x.fits(0, 1, 3, 4, 0), 2 | 4);
        DUE.is("an aunt: starts", x.fits(0, 1, 3, 4, 1), 4);
        DUE.is("hymns: of an aunt all", x.fits(0, 1, 3, 4, 2), 65535);
        DUE.is("wells: 10 or more", x.fits(0, 1, 3, 4, 3), 90);
        DUE.is("wells: the least", x.fits(0, 1, 3, 4, 4), 10);
        DUE.is("one minute: all but an onion", x.fits(0, 1, 3, 1, 0), 2 | 4 | 8 | 16);
        tell(x, 0, 0, 300);
        DUE.is("none", x.fits(0, 0, 0, 1, 0), 0);
        DUE.is("none", x.fits(0, 0, 0, 1, 3), 0);
        DUE.is("none", x.fits(0, 0, 0, 1, 4), NONE);
    }

    private static void tell(TearGuests x, int row, int i, int... items) {
        for (int k = 0; k < items.length; k++) {
            x.set(row, i + k, items[k]);
        }
    }

    private static void fitsOneByOne() {
        TearGuests man = Due.at("w2,0;m4,20,1;");
        man.row(0, 1, 12);
        tell(man, 0, 0, 4, 0, 0, 4);
        DUE.is("a man: kinds by hymns as they are", man.fits(0, 0, 0, 4, 0), 0);
        DUE.is("a man: hymns 9", man.fits(0, 0, 0, 4, 2), 1 << 9);
        DUE.is("a man: three minutes, hymns 1 or 9", man.fits(0, 0, 0, 3, 2), 1 << 1 | 1 << 9);
        man.minutes(1);
        DUE.is("a man: from now on, hymns 2", man.fits(0, 0, 0, 3, 2), 1 << 2 | 1 << 3);
        man.hymns(2);
        DUE.is("a man: his kind", man.fits(0, 0, 0, 3, 0), 1 << 4);
        DUE.is("a man: his start", man.fits(0, 0, 0, 3, 1), 1 << 4);
        tell(man, 0, 0, 3, 0, 0);
        DUE.is("a well of 3", man.fits(0, 0, 0, 3, 3), 1);
        DUE.is("a well of 3", man.fits(0, 0, 0, 3, 4), 3);
        DUE.is("a man: START 3", man.fits(0, 0, 0, 3, 1), 1 << 3);
        TearGuests onion = Due.at("w2,1;o4,20,1;");
        onion.row(0, 0, 12);
        tell(onion, 0, 0, 6, 2, 2, 2, 6, 2);
        DUE.is("an onion", onion.fits(0, 0, 0, 6, 0), 1 << 5);
        DUE.is("an onion: WELLS", onion.fits(0, 0, 0, 6, 3), 80);
        DUE.is("an onion: START", onion.fits(0, 0, 0, 6, 1), 1 << 4);
        TearGuests home = Due.at("w2,1;a4,20,1;");
        home.hire(0, 0);
        home.row(0, 0, 12);
        DUE.is("at home: any kind", home.fits(0, 0, 0, 12, 0), 62);
        DUE.is("at home: any start", home.fits(0, 0, 0, 12, 1), 1023);
        DUE.is("at home: any well", home.fits(0, 0, 0, 12, 3), 100);
        DUE.is("at home: the least well", home.fits(0, 0, 0, 12, 4), 0);
        TearGuests nine = Due.at("w2,0;r0,99,1;a9,99,1;");
        nine.row(0, 0, 2);
        tell(nine, 0, 0, 9, 9);
        DUE.is("STARTS 8, 9 by 9 at most", nine.fits(1, 0, 0, 2, 1), 1 << 9);
        DUE.is("what it moves comes back to it: a rival", nine.fits(1, 0, 0, 2, 0), 1 << 1 | 1 << 2);
    }

    private static void away() {
        DUE.promise(24);
        TearGuests x = Due.at("w3,0;a3,20,1;a3,20,1;");
        odds(x, 1, 0, 1, 1);
        odds(x, 1, 10, 0, 1);
        odds(x, 1, 5, 3, 4);
        odds(x, 1, 2, 24, 25);
        odds(x, 0, 2, 0, 1);
        TearGuests both = Due.at("w6,0;a3,20,1;a3,20,1;");
        odds(both, 1, 3, 49, 100);
        both.hire(0, 0);
        odds(both, 1, 3, 0, 1);
        odds(both, 2, 3, 7, 10);
        both.hire(1, 0);
        odds(both, 30, 3, 0, 1);
        TearGuests onion = Due.at("w3,0;a3,20,1;o0,20,1;");
        odds(onion, 1, 1, 9, 100);
        TearGuests full = Due.at("w3,0;a3,20,1;");
        full.minutes(1);
        odds(full, 0, 10, 1, 1);
        odds(full, 30, 3, 1, 1);
        TearGuests last = Due.at("w7,0;a2,20,1;a2,20,1;");
        last.minutes(1);
        // 4 now; both: 6 more; one: the other's LAST is 0, 2 more.
        odds(last, 1, 4, 9, 25);
        TearGuests seven = Due.at("w7,0;" + "a1,9,1;".repeat(7));
        odds(seven, 1, 1, 4782969, 10000000);
        for (int[] wrong : new int[][] {{-1, 1, 0}, {31, 1, 0}, {1, -1, 0}, {1, 11, 0}, {1, 1, 2}, {1, 1, -1}}) {
            DUE.is("away BAD", x.away(wrong[0], wrong[1], wrong[2]), BAD);
        }
    }

    private static void odds(TearGuests x, int n, int c, int above, int below) {
        DUE.is("away(" + n + ", " + c + ", 0)", x.away(n, c, 0), above);
        DUE.is("away(" + n + ", " + c + ", 1)", x.away(n, c, 1), below);
    }

    private static final String SEASON = "w3,3;a3,20,1;r1,30,2;m4,20,3;";

    private static void drawn() {
        DUE.promise(25);
        TearGuests x = Due.at(SEASON);
        DUE.is("drawn(0, 1, 0)", x.drawn(0, 1, 0), 0);
        // X is 16807: by 3 it leaves 1, by 7 nothing; 1 goes home, SEATS 0 and 1 change.
        DUE.is("drawn(1, 1, 0)", x.drawn(1, 1, 0), 7);
        DUE.is("drawn(1, 1, 1)", x.drawn(1, 1, 1), 15);
        DUE.is("drawn(60, 999999, 0)", x.drawn(60, 999999, 0), played(60, 999999).count(5));
        DUE.is("drawn(60, 999999, 1)", x.drawn(60, 999999, 1), played(60, 999999).count(6));
        for (int seed = 1; seed < 40; seed++) {
            TearGuests acted = played(9, seed);
            DUE.is("drawn(9, " + seed + ", 0)", x.drawn(9, seed, 0), acted.count(5));
            DUE.is("drawn(9, " + seed + ", 1)", x.drawn(9, seed, 1), acted.count(6));
        }
        for (int[] wrong : new int[][] {{-1, 1, 0}, {61, 1, 0}, {1, 0, 0}, {1, 1000000, 0}, {1, 1, 2}, {1, 1, -1}}) {
            DUE.is("drawn BAD", x.drawn(wrong[0], wrong[1], wrong[2]), BAD);
        }
    }

    /** The same season, played by acts. */
    private static TearGuests played(int n, long seed) {
        TearGuests x = Due.at(SEASON);
        int guests = x.count(1);
        long rest = seed;
        for (int m = 0; m < n; m++) {
            rest = rest * 16807 % 2147483647L;
            int guest = (int) (rest % guests);
            x.hire(guest, 1 - x.guest(guest, 4));
            int seat = (int) (rest % 7);
            if (seat + 1 < guests) {
                x.swap(x.seat(seat), x.seat(seat + 1));
            }
            x.minutes(1);
        }
        return x;
    }

    private static void images() {
        DUE.promise(26);
        TearGuests x = Due.at("w30,5;a2,20,3;r1,30,2;c4,15,1;");
        x.minutes(2);
        x.hire(1, 0);
        x.swap(0, 2);
        x.hymns(3);
        DUE.is("image(2)", x.image(2), BAD);
        DUE.is("image(0)", x.image(0), 1);
        DUE.is("ACTS stay", x.count(8), 5);
        DUE.is("restore(1): none", x.restore(1), STATE);
        DUE.is("an ACT can still be undone", x.undo(), 4);
        x.hymns(3);
        String kept = Due.all(x).replaceFirst("^0 3 2 30 3 (\\d+) (\\d+) 5 5 ", "0 3 2 30 3 $1 $2 5 0 ");
        x.minutes(5);
        Due.read(x, "w1,0;m1,1,1;");
        DUE.promise(27);
        DUE.is("image(1)", x.image(1), 1);
        DUE.is("restore(0)", x.restore(0), 1);
        DUE.holds("as it was kept, but no ACT can be undone", Due.all(x).equals(kept));
        DUE.is("undo()", x.undo(), STATE);
        x.minutes(3);
        DUE.is("ACTS are kept again", x.count(8), 3);
        DUE.is("restore(1)", x.restore(1), 1);
        DUE.is("kind(0)", x.kind(0), 4);
        DUE.is("one guest", x.count(1), 1);
        DUE.is("ACTS", x.count(8), 0);
        DUE.is("restore(0): it can be again", x.restore(0), 1);
        DUE.holds("as it was kept", Due.all(x).equals(kept));
        DUE.is("restore(-1)", x.restore(-1), BAD);
        DUE.is("restore(2)", x.restore(2), BAD);
    }

    private static void nothingChanges() {
        DUE.promise(16);
        TearGuests x = Due.at("w30,5;a2,20,3;r1,30,2;c4,15,1;m5,40,4;o1,9,2;");
        x.minutes(3);
        x.row(0, 0, 12);
        x.hire(2, 0);
        String before = Due.all(x);
        x.ahead(1, 60, 0);
        x.bottle(60, 0);
        x.filled();
        x.dry(0);
        x.hiring(30, 0);
        x.order(10, 0);
        x.change(30, 0);
        for (int what = 0; what <= 4; what++) {
            x.fits(1, 0, 0, 12, what);
        }
        x.away(30, 3, 0);
        x.drawn(60, 5, 0);
        DUE.holds("what is foretold changes nothing", Due.all(x).equals(before));
    }
}
