import java.util.function.Consumer;

/** All promises: every call with arguments at, within and beyond every bound, in weddings of every size, held against the model. */
public final class SweepTest {
    private static final int MIN = Integer.MIN_VALUE, MAX = Integer.MAX_VALUE;
    /** Texts of the weddings in which all is called; none at first. */
    private static final String[] SCENES = {"", "w1,1;a1,9,1;", "w40,6;c3,20,2;r0,99,1;o1,12,0;",
        "w99,9;a2,99,9;r0,50,3;c9,1,0;m5,40,4;o9,9,2;a0,99,1;m9,99,9;"};
    /** Of these calls, with two looks each, so many stay below 512; then the scene is set anew. */
    private static final int CALLS = 120;

    private static final int[] ROW = {MIN, -1, 0, 2, 7, 8, MAX};
    private static final int[] PLACE = {MIN, -1, 0, 4, 5, 6, MAX};
    private static final int[] GUEST = {MIN, -1, 0, 1, 2, 3, 6, 7, MAX};
    private static final int[] FLAG = {MIN, -1, 0, 1, 2, MAX};

    private interface Ours {
        int answer(TearGuests x, int[] a);
    }

    private interface Theirs {
        int answer(Model x, int[] a);
    }

    private final String scene;
    private TearGuests x;
    private Model model;
    private int calls;
    private int wrong;

    private SweepTest(String scene) {
        this.scene = scene;
        setAnew();
    }

    public static void main(String[] args) {
        int looked = 0;
        int wrong = 0;
        for (String scene : SCENES) {
            SweepTest test = new SweepTest(scene);
            test.rows();
            test.acts();
            test.foretold();
            test.asked();
            looked += test.calls;
            wrong += test.wrong;
        }
        System.out.println(looked + " calls at bounds, " + wrong + " wrong");
        if (wrong != 0) {
            System.exit(1);
        }
    }

    private void setAnew() {
        x = new TearGuests();
        model = new Model();
        for (char letter : scene.toCharArray()) {
            both(letter);
        }
        x.wedding();
        model.wedding();
        x.minutes(2);
        model.minutes(2);
        x.row(0, 0, 5);
        model.row(0, 0, 5);
        x.row(2, 1, 40);
        model.row(2, 1, 40);
        for (int i = 0; i < 5; i++) {
            x.set(0, i, 2 + i % 2);
            model.set(0, i, 2 + i % 2);
        }
    }

    private void both(int letter) {
        x.feed(letter);
        model.feed(letter);
    }

    /** All that arguments can be, one list for each. */
    private void sweep(String name, Ours ours, Theirs theirs, int[]... values) {
        each(new int[values.length], 0, values, a -> {
            calls++;
            if (calls % CALLS == 0) {
                setAnew();
            }
            same(name, a, ours.answer(x, a), theirs.answer(model, a));
            same(name + ", then status", a, x.status(), model.status());
            same(name + ", then count(8)", a, x.count(8), model.count(8));
        });
    }

    private static void each(int[] a, int at, int[][] values, Consumer<int[]> call) {
        if (at == a.length) {
            call.accept(a);
            return;
        }
        for (int value : values[at]) {
            a[at] = value;
            each(a, at + 1, values, call);
        }
    }

    private void same(String name, int[] a, int got, int want) {
        if (got != want && ++wrong < 20) {
            System.out.println("\"" + scene + "\": " + name + java.util.Arrays.toString(a) + " answered " + got + ", due is " + want);
        }
    }

    private void rows() {
        int[] far = {MIN, -32769, -129, -1, 0, 127, 128, 255, 256, 32768, 65536, MAX};
        sweep("set", (o, a) -> o.set(a[0], a[1], a[2]), (o, a) -> o.set(a[0], a[1], a[2]), ROW, PLACE, far);
        sweep("copy", (o, a) -> o.copy(a[0], a[1], a[2], a[3], a[4]), (o, a) -> o.copy(a[0], a[1], a[2], a[3], a[4]), ROW, PLACE, ROW, PLACE,
            new int[] {MIN, -1, 0, 1, 5, 6, MAX});
        sweep("fits", (o, a) -> o.fits(a[0], a[1], a[2], a[3], a[4]), (o, a) -> o.fits(a[0], a[1], a[2], a[3], a[4]),
            new int[] {MIN, -1, 0, 2, 3, 7, MAX}, new int[] {-1, 0, 2, 5, 8}, new int[] {MIN, -1, 0, 4, 5, 29, MAX},
            new int[] {MIN, 0, 1, 5, 12, 13, MAX}, new int[] {-1, 0, 1, 2, 3, 4, 5, MAX});
        sweep("row", (o, a) -> o.row(a[0], a[1], a[2]), (o, a) -> o.row(a[0], a[1], a[2]), ROW, new int[] {MIN, -1, 0, 1, 2, 3, MAX},
            new int[] {MIN, -1, 0, 1, 39, 40, 41, MAX});
        sweep("drop", (o, a) -> o.drop(a[0]), (o, a) -> o.drop(a[0]), ROW);
    }

    private void acts() {
        sweep("feed", (o, a) -> o.feed(a[0]), (o, a) -> o.feed(a[0]), new int[] {MIN, -1, 0, 1, 254, 255, 256, MAX});
        sweep("minutes", (o, a) -> o.minutes(a[0]), (o, a) -> o.minutes(a[0]), new int[] {MIN, -1, 0, 1, 2, 23, 24, 25, MAX});
        sweep("hire", (o, a) -> o.hire(a[0], a[1]), (o, a) -> o.hire(a[0], a[1]), GUEST, FLAG);
        sweep("swap", (o, a) -> o.swap(a[0], a[1]), (o, a) -> o.swap(a[0], a[1]), GUEST, GUEST);
        sweep("hymns", (o, a) -> o.hymns(a[0]), (o, a) -> o.hymns(a[0]), new int[] {MIN, -1, 0, 1, 14, 15, 16, MAX});
        sweep("undo", (o, a) -> o.undo(), (o, a) -> o.undo(), new int[30]);
        sweep("guest", (o, a) -> o.guest(a[0], a[1]), (o, a) -> o.guest(a[0], a[1]), GUEST, new int[] {MIN, -1, 0, 1, 2, 3, 4, 5, 6, 7, MAX});
        sweep("seat", (o, a) -> o.seat(a[0]), (o, a) -> o.seat(a[0]), GUEST);
        sweep("count", (o, a) -> o.count(a[0]), (o, a) -> o.count(a[0]), new int[] {MIN, -1, 0, 1, 2, 3, 4, 5, 6, 7, 8, 9, 10, MAX});
        sweep("image", (o, a) -> o.image(a[0]), (o, a) -> o.image(a[0]), FLAG);
        sweep("restore", (o, a) -> o.restore(a[0]), (o, a) -> o.restore(a[0]), FLAG);
    }

    private void foretold() {
        int[] sixty = {MIN, -1, 0, 1, 59, 60, 61, MAX};
        int[] thirty = {MIN, -1, 0, 1, 29, 30, 31, MAX};
        sweep("ahead", (o, a) -> o.ahead(a[0], a[1], a[2]), (o, a) -> o.ahead(a[0], a[1], a[2]), GUEST, sixty, FLAG);
        sweep("bottle", (o, a) -> o.bottle(a[0], a[1]), (o, a) -> o.bottle(a[0], a[1]), sixty, FLAG);
        sweep("filled", (o, a) -> o.filled(), (o, a) -> o.filled());
        sweep("dry", (o, a) -> o.dry(a[0]), (o, a) -> o.dry(a[0]), FLAG);
        sweep("hiring", (o, a) -> o.hiring(a[0], a[1]), (o, a) -> o.hiring(a[0], a[1]), thirty, FLAG);
        sweep("order", (o, a) -> o.order(a[0], a[1]), (o, a) -> o.order(a[0], a[1]), new int[] {MIN, -1, 0, 1, 9, 10, 11, MAX}, FLAG);
        sweep("change", (o, a) -> o.change(a[0], a[1]), (o, a) -> o.change(a[0], a[1]), thirty, FLAG);
        sweep("away", (o, a) -> o.away(a[0], a[1], a[2]), (o, a) -> o.away(a[0], a[1], a[2]), new int[] {MIN, -1, 0, 1, 30, 31, MAX},
            new int[] {MIN, -1, 0, 1, 5, 9, 10, 11, MAX}, FLAG);
        sweep("drawn", (o, a) -> o.drawn(a[0], a[1], a[2]), (o, a) -> o.drawn(a[0], a[1], a[2]), sixty,
            new int[] {MIN, -1, 0, 1, 127773, 127774, 999998, 999999, 1000000, MAX}, FLAG);
    }

    private void asked() {
        sweep("kind", (o, a) -> o.kind(a[0]), (o, a) -> o.kind(a[0]), GUEST);
        sweep("as", (o, a) -> o.as(a[0], a[1]), (o, a) -> o.as(a[0], a[1]), GUEST, new int[] {MIN, -1, 0, 1, 2, 3, 4, 5, 6, MAX});
        sweep("ask", (o, a) -> o.ask(a[0], a[1]), (o, a) -> o.ask(a[0], a[1]), GUEST, FLAG);
        sweep("trace", (o, a) -> o.trace(a[0]), (o, a) -> o.trace(a[0]), new int[] {MIN, -1, 0, 1, 5, 6, 15, 16, MAX});
    }
}
