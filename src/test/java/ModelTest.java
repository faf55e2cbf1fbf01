import java.util.Random;

/** All promises: long runs of drawn calls, each answer held against the model's. */
public final class ModelTest {
    /** No step takes more than some seventy calls, so that no run goes beyond 512. */
    private static final int RUNS = 1200, CALLS = 430;
    private static final int[] FAR = {Integer.MIN_VALUE, Integer.MAX_VALUE, -1000000, 1 << 30, 512, -2};

    private final Random draws;
    private final TearGuests x = new TearGuests();
    private final Model model = new Model();
    private final StringBuilder told = new StringBuilder();
    private int calls;
    private boolean same = true;

    private ModelTest(long seed) {
        draws = new Random(seed);
    }

    public static void main(String[] args) {
        int wrong = 0;
        for (int run = 0; run < RUNS && wrong < 3; run++) {
            ModelTest test = new ModelTest(run);
            while (test.calls < CALLS && test.same) {
                test.step();
            }
            if (!test.same) {
                wrong++;
                System.out.println("run " + run + ":\n" + test.told);
            }
        }
        System.out.println(RUNS + " runs of some " + CALLS + " drawn calls, " + wrong + " wrong");
        if (wrong != 0) {
            System.exit(1);
        }
    }

    private void check(String call, int got, int want) {
        calls++;
        told.append(call).append(" = ").append(got).append('\n');
        if (got != want) {
            told.append("   due is ").append(want).append('\n');
            same = false;
        }
    }

    /** Mostly from a to b, at times one beyond, seldom far off. */
    private int near(int a, int b) {
        int die = draws.nextInt(60);
        if (die == 0) {
            return FAR[draws.nextInt(FAR.length)];
        }
        if (die <= 2) {
            return die == 1 ? a - 1 : b + 1;
        }
        return a + draws.nextInt(b - a + 1);
    }

    private int anyGuest() {
        return near(0, Math.max(0, model.count(1) - 1));
    }

    private int flag() {
        return near(0, 1);
    }

    private void step() {
        int die = draws.nextInt(100);
        if (die < 6) {
            readSome();
        } else if (die < 24) {
            rows();
        } else if (die < 50) {
            act();
        } else if (die < 75) {
            foretell();
        } else {
            look();
        }
    }

    private void readSome() {
        if (draws.nextInt(4) > 0 && model.count(1) > 0) {
            return;
        }
        StringBuilder text = new StringBuilder("w" + number(99) + "," + number(15) + ";");
        int guests = draws.nextInt(12) == 0 ? 8 : 1 + draws.nextInt(7);
        for (int g = 0; g < guests; g++) {
            text.append("arcmo".charAt(draws.nextInt(5)));
            text.append(number(9)).append(',').append(number(draws.nextBoolean() ? 99 : 20)).append(',').append(number(9)).append(';');
        }
        for (int spoiled = draws.nextInt(8); spoiled > 5; spoiled--) {
            spoil(text);
        }
        for (int i = 0; i < text.length(); i++) {
            int letter = text.charAt(i);
            check("feed(" + letter + ")", x.feed(letter), model.feed(letter));
        }
        check("wedding() of " + text, x.wedding(), model.wedding());
        check("fault()", x.fault(), model.fault());
    }

    private String number(int most) {
        int n = draws.nextInt(most + 1);
        return n < 10 && draws.nextInt(20) == 0 ? "0" + n : "" + n;
    }

    private void spoil(StringBuilder text) {
        int at = draws.nextInt(text.length());
        String signs = "warcmox,;0159 Z\u00ff/:`{";
        char sign = signs.charAt(draws.nextInt(signs.length()));
        switch (draws.nextInt(4)) {
            case 0:
                text.setCharAt(at, sign);
                break;
            case 1:
                text.insert(at, sign);
                break;
            case 2:
                text.deleteCharAt(at);
                break;
            default:
                text.setLength(at + 1);
        }
    }

    private void rows() {
        int row = near(0, 3);
        int i = near(0, 12);
        switch (draws.nextInt(8)) {
            case 0: {
                int lane = near(0, 2);
                int n = near(0, 40);
                check("row(" + row + ", " + lane + ", " + n + ")", x.row(row, lane, n), model.row(row, lane, n));
                break;
            }
            case 1: {
                int b = near(0, 3);
                int j = near(0, 12);
                int n = near(0, 12);
                check("copy(" + row + ", " + i + ", " + b + ", " + j + ", " + n + ")", x.copy(row, i, b, j, n), model.copy(row, i, b, j, n));
                break;
            }
            case 2:
                if (draws.nextInt(4) == 0) {
                    check("drop(" + row + ")", x.drop(row), model.drop(row));
                }
                break;
            case 3:
                tellTruth(row);
                break;
            default: {
                int v = draws.nextInt(3) == 0 ? draws.nextInt() : near(0, 9);
                check("set(" + row + ", " + i + ", " + v + ")", x.set(row, i, v), model.set(row, i, v));
            }
        }
    }

    /** Rows that tell what a guest will shed, or would with little changed, so that something fits. */
    private void tellTruth(int row) {
        int guest = anyGuest();
        int n = 1 + draws.nextInt(12);
        for (int m = 0; m < n; m++) {
            int v = model.ahead(guest, m + 1, 0);
            check("set(" + row + ", " + m + ", " + v + ")", x.set(row, m, v), model.set(row, m, v));
        }
        for (int what = 0; what <= 4; what++) {
            fit(guest, row, 0, n, what);
            fit(guest, row, 0, 1 + n / 3, what);
        }
    }

    private void fit(int guest, int row, int i, int n, int what) {
        check("fits(" + guest + ", " + row + ", " + i + ", " + n + ", " + what + ")",
            x.fits(guest, row, i, n, what), model.fits(guest, row, i, n, what));
        check("status()", x.status(), model.status());
    }

    private void act() {
        int guest = anyGuest();
        switch (draws.nextInt(8)) {
            case 0: {
                int n = draws.nextInt(6) == 0 ? near(1, 24) : 1 + draws.nextInt(3);
                check("minutes(" + n + ")", x.minutes(n), model.minutes(n));
                break;
            }
            case 1:
            case 2: {
                int on = flag();
                check("hire(" + guest + ", " + on + ")", x.hire(guest, on), model.hire(guest, on));
                break;
            }
            case 3:
            case 4: {
                int other = anyGuest();
                check("swap(" + guest + ", " + other + ")", x.swap(guest, other), model.swap(guest, other));
                break;
            }
            case 5: {
                int v = near(0, 15);
                check("hymns(" + v + ")", x.hymns(v), model.hymns(v));
                break;
            }
            case 6:
                for (int k = draws.nextInt(5) == 0 ? 26 : 2; k > 0; k--) {
                    check("undo()", x.undo(), model.undo());
                }
                break;
            default: {
                int k = flag();
                boolean keep = draws.nextInt(3) > 0;
                check((keep ? "image(" : "restore(") + k + ")", keep ? x.image(k) : x.restore(k), keep ? model.image(k) : model.restore(k));
            }
        }
    }

    private void foretell() {
        int what = flag();
        int n = near(1, 30);
        int d = near(0, 60);
        switch (draws.nextInt(9)) {
            case 0: {
                int guest = anyGuest();
                check("ahead(" + guest + ", " + d + ", " + what + ")", x.ahead(guest, d, what), model.ahead(guest, d, what));
                break;
            }
            case 1:
                check("bottle(" + d + ", " + what + ")", x.bottle(d, what), model.bottle(d, what));
                break;
            case 2:
                check("filled()", x.filled(), model.filled());
                break;
            case 3:
                check("dry(" + what + ")", x.dry(what), model.dry(what));
                break;
            case 4:
                check("hiring(" + n + ", " + what + ")", x.hiring(n, what), model.hiring(n, what));
                break;
            case 5: {
                int few = draws.nextInt(model.count(1) > 5 ? 30 : 2) == 0 ? near(1, 10) : 0;
                check("order(" + few + ", " + what + ")", x.order(few, what), model.order(few, what));
                break;
            }
            case 6:
                check("change(" + n + ", " + what + ")", x.change(n, what), model.change(n, what));
                break;
            case 7: {
                int c = near(0, 10);
                check("away(" + (n - 1) + ", " + c + ", " + what + ")", x.away(n - 1, c, what), model.away(n - 1, c, what));
                break;
            }
            default: {
                int seed = near(1, 999999);
                check("drawn(" + d + ", " + seed + ", " + what + ")", x.drawn(d, seed, what), model.drawn(d, seed, what));
            }
        }
    }

    private void look() {
        int guest = anyGuest();
        switch (draws.nextInt(9)) {
            case 0:
                fit(guest, near(0, 3), near(0, 12), near(1, 12), near(0, 4));
                break;
            case 1:
            case 2: {
                int what = near(0, 6);
                check("guest(" + guest + ", " + what + ")", x.guest(guest, what), model.guest(guest, what));
                break;
            }
            case 3:
                check("seat(" + guest + ")", x.seat(guest), model.seat(guest));
                break;
            case 4:
                check("kind(" + guest + ")", x.kind(guest), model.kind(guest));
                break;
            case 5: {
                int kind = near(0, 5);
                check("as(" + guest + ", " + kind + ")", x.as(guest, kind), model.as(guest, kind));
                check("status()", x.status(), model.status());
                break;
            }
            case 6: {
                int what = flag();
                check("ask(" + guest + ", " + what + ")", x.ask(guest, what), model.ask(guest, what));
                for (int i = -1; i < 8; i++) {
                    check("trace(" + i + ")", x.trace(i), model.trace(i));
                }
                break;
            }
            case 7:
                check("status()", x.status(), model.status());
                break;
            default: {
                int what = near(0, 9);
                check("count(" + what + ")", x.count(what), model.count(what));
            }
        }
    }
}
