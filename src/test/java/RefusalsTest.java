import java.util.ArrayList;
import java.util.List;

/** "What is refused, or found, changes nothing but status()", by every refusal of every call. */
public final class RefusalsTest {
    private static final int BAD = TearGuests.BAD, STATE = TearGuests.STATE, FULL = TearGuests.FULL;
    private static final Due DUE = new Due();

    private record Refused(int promise, String name, int answer, Due.Call call) { }

    public static void main(String[] args) {
        List<Refused> all = new ArrayList<>();
        rows(all);
        acts(all);
        looks(all);
        foretold(all);
        asked(all);
        for (Refused one : all) {
            changesNothing(one);
        }
        fullTape();
        DUE.end();
    }

    private static void rows(List<Refused> all) {
        all.add(new Refused(2, "row(8, 0, 2)", BAD, x -> x.row(8, 0, 2)));
        all.add(new Refused(2, "row(0, 3, 2)", BAD, x -> x.row(0, 3, 2)));
        all.add(new Refused(2, "row(0, 0, 41)", BAD, x -> x.row(0, 0, 41)));
        all.add(new Refused(2, "row(0, 0, -1)", -1000014, x -> x.row(0, 0, -1)));
        all.add(new Refused(2, "row(5, 0, -1)", -1000014, x -> x.row(5, 0, -1)));
        all.add(new Refused(3, "set(8, 0, 9)", BAD, x -> x.set(8, 0, 9)));
        all.add(new Refused(3, "set(5, 0, 9)", -1000011, x -> x.set(5, 0, 9)));
        all.add(new Refused(3, "set(0, 4, 9)", -1000012, x -> x.set(0, 4, 9)));
        all.add(new Refused(3, "set(0, -1, 9)", -1000012, x -> x.set(0, -1, 9)));
        all.add(new Refused(4, "copy(0, 0, 8, 0, 1)", BAD, x -> x.copy(0, 0, 8, 0, 1)));
        all.add(new Refused(4, "copy(0, 0, 5, 0, 1)", -1000011, x -> x.copy(0, 0, 5, 0, 1)));
        all.add(new Refused(4, "copy(5, 0, 0, 0, 1)", -1000011, x -> x.copy(5, 0, 0, 0, 1)));
        all.add(new Refused(4, "copy(0, 0, 1, 0, 3)", -1000015, x -> x.copy(0, 0, 1, 0, 3)));
        all.add(new Refused(4, "copy(0, 0, 0, 1, 4)", -1000012, x -> x.copy(0, 0, 0, 1, 4)));
        all.add(new Refused(4, "copy(0, 1, 0, 0, 4)", -1000012, x -> x.copy(0, 1, 0, 0, 4)));
        all.add(new Refused(4, "copy(0, 0, 0, 2, -1)", -1000012, x -> x.copy(0, 0, 0, 2, -1)));
        all.add(new Refused(5, "drop(8)", BAD, x -> x.drop(8)));
        all.add(new Refused(5, "drop(5)", -1000011, x -> x.drop(5)));
    }

    private static void acts(List<Refused> all) {
        all.add(new Refused(6, "feed(256)", BAD, x -> x.feed(256)));
        all.add(new Refused(6, "feed(-1)", BAD, x -> x.feed(-1)));
        all.add(new Refused(9, "minutes(0)", BAD, x -> x.minutes(0)));
        all.add(new Refused(9, "minutes(25)", BAD, x -> x.minutes(25)));
        all.add(new Refused(10, "hire(5, 0)", BAD, x -> x.hire(5, 0)));
        all.add(new Refused(10, "hire(0, 2)", BAD, x -> x.hire(0, 2)));
        all.add(new Refused(10, "hire(0, 1)", STATE, x -> x.hire(0, 1)));
        all.add(new Refused(10, "hire(2, 0)", STATE, x -> x.hire(2, 0)));
        all.add(new Refused(11, "swap(0, 5)", BAD, x -> x.swap(0, 5)));
        all.add(new Refused(11, "swap(5, 0)", BAD, x -> x.swap(5, 0)));
        all.add(new Refused(11, "swap(3, 3)", BAD, x -> x.swap(3, 3)));
        all.add(new Refused(12, "hymns(16)", BAD, x -> x.hymns(16)));
        all.add(new Refused(12, "hymns(-1)", BAD, x -> x.hymns(-1)));
        all.add(new Refused(26, "image(2)", BAD, x -> x.image(2)));
        all.add(new Refused(27, "restore(2)", BAD, x -> x.restore(2)));
        all.add(new Refused(27, "restore(0)", STATE, x -> x.restore(0)));
    }

    private static void looks(List<Refused> all) {
        all.add(new Refused(14, "guest(5, 0)", BAD, x -> x.guest(5, 0)));
        all.add(new Refused(14, "guest(0, 7)", BAD, x -> x.guest(0, 7)));
        all.add(new Refused(15, "seat(5)", BAD, x -> x.seat(5)));
        all.add(new Refused(32, "count(10)", BAD, x -> x.count(10)));
    }

    private static void foretold(List<Refused> all) {
        all.add(new Refused(16, "ahead(5, 1, 0)", BAD, x -> x.ahead(5, 1, 0)));
        all.add(new Refused(16, "ahead(0, 61, 0)", BAD, x -> x.ahead(0, 61, 0)));
        all.add(new Refused(17, "bottle(61, 0)", BAD, x -> x.bottle(61, 0)));
        all.add(new Refused(19, "dry(2)", BAD, x -> x.dry(2)));
        all.add(new Refused(20, "hiring(31, 0)", BAD, x -> x.hiring(31, 0)));
        all.add(new Refused(21, "order(11, 0)", BAD, x -> x.order(11, 0)));
        all.add(new Refused(22, "change(31, 0)", BAD, x -> x.change(31, 0)));
        all.add(new Refused(23, "fits(5, 0, 0, 1, 0)", BAD, x -> x.fits(5, 0, 0, 1, 0)));
        all.add(new Refused(23, "fits(0, 0, 0, 13, 0)", BAD, x -> x.fits(0, 0, 0, 13, 0)));
        all.add(new Refused(23, "fits(0, 5, 0, 1, 0)", -1000011, x -> x.fits(0, 5, 0, 1, 0)));
        all.add(new Refused(23, "fits(0, 0, 4, 1, 0)", -1000012, x -> x.fits(0, 0, 4, 1, 0)));
        all.add(new Refused(24, "away(31, 0, 0)", BAD, x -> x.away(31, 0, 0)));
        all.add(new Refused(24, "away(0, 11, 0)", BAD, x -> x.away(0, 11, 0)));
        all.add(new Refused(25, "drawn(61, 1, 0)", BAD, x -> x.drawn(61, 1, 0)));
        all.add(new Refused(25, "drawn(1, 0, 0)", BAD, x -> x.drawn(1, 0, 0)));
    }

    private static void asked(List<Refused> all) {
        all.add(new Refused(28, "kind(5)", BAD, x -> x.kind(5)));
        all.add(new Refused(29, "as(5, 0)", BAD, x -> x.as(5, 0)));
        all.add(new Refused(29, "as(0, 6)", BAD, x -> x.as(0, 6)));
        all.add(new Refused(29, "as(0, 4)", -1000013, x -> x.as(0, 4)));
        all.add(new Refused(30, "ask(5, 0)", BAD, x -> x.ask(5, 0)));
        all.add(new Refused(30, "ask(0, 2)", BAD, x -> x.ask(0, 2)));
        all.add(new Refused(31, "trace(6)", TearGuests.NONE, x -> x.trace(6)));
    }

    /** Something of all that there is: rows, a tape begun, acts, an image, a trace, a fault, a finding (2). */
    private static TearGuests scene() {
        TearGuests x = new TearGuests();
        x.wedding();
        Due.read(x, "w30,5;a9,50,3;r1,30,2;c4,15,1;m5,40,4;o1,9,2;");
        x.minutes(2);
        x.image(1);
        x.hire(2, 0);
        x.swap(0, 1);
        x.hymns(9);
        x.feed('w');
        x.ask(1, 0);
        x.row(0, 0, 4);
        x.row(1, 1, 3);
        for (int i = 0; i < 3; i++) {
            x.set(0, i, i + 1);
            x.set(1, i, i + 5);
        }
        x.set(0, 4, 0);
        return x;
    }

    private static void changesNothing(Refused one) {
        DUE.sentence(one.promise, "What is refused, or found, changes nothing but status().");
        TearGuests x = scene();
        DUE.is(one.name, one.call.on(x), one.answer);
        boolean found = one.answer < -1000010;
        DUE.is(one.name + ": status()", x.status(), found ? -1000010 - one.answer : 2);
        DUE.holds(one.name + " changes nothing", all(x).equals(all(scene())));
    }

    /** What can be seen of an object, then of its rows, of what is undone and of what was kept. */
    private static String all(TearGuests x) {
        StringBuilder b = new StringBuilder(withoutStatus(x));
        for (int i = 0; i < 4; i++) {
            b.append(' ').append(Due.item(x, 0, i)).append(' ').append(Due.item(x, 1, i));
        }
        for (int left = 5; left > 0; left--) {
            b.append(' ').append(x.undo()).append(' ').append(x.count(4)).append(' ').append(x.count(7)).append(' ').append(x.seat(0))
                .append(' ').append(x.guest(2, 5)).append(' ').append(x.count(5));
        }
        b.append(' ').append(x.undo()).append(' ').append(withoutStatus(x));
        b.append(' ').append(x.restore(1)).append(' ').append(withoutStatus(x));
        return b.append(' ').append(x.restore(0)).toString();
    }

    private static String withoutStatus(TearGuests x) {
        String all = Due.all(x);
        return all.substring(0, all.lastIndexOf(' '));
    }

    private static void fullTape() {
        DUE.sentence(6, "What is refused, or found, changes nothing but status().");
        TearGuests x = scene();
        TearGuests same = scene();
        for (int n = 2; n <= 110; n++) {
            x.feed('a');
            same.feed('a');
        }
        DUE.is("feed: the tape is full", x.feed('b'), FULL);
        DUE.is("status()", x.status(), 2);
        DUE.holds("FULL changes nothing", Due.all(x).equals(Due.all(same)));
    }
}
