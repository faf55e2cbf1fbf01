import java.math.BigInteger;
import java.util.ArrayList;
import java.util.List;

/** The document once more, in the slowest and plainest way, to be held against TearGuests. */
final class Model {
    static final int NONE = -1000000, BAD = -1000001, STATE = -1000002, FULL = -1000003;

    /** The KINDS as the document tells them: SIZE and MARK are lent to all, and told anew by some. */
    interface Asked {
        Guest self();

        List<Integer> trace();

        default int size() {
            trace().add(10);
            return self().start;
        }

        default int mark() {
            trace().add(20);
            return self().number;
        }
    }

    static class Any implements Asked {
        final Guest guest;
        final List<Integer> trace;

        Any(Guest guest, List<Integer> trace) {
            this.guest = guest;
            this.trace = trace;
        }

        @Override public Guest self() {
            return guest;
        }

        @Override public List<Integer> trace() {
            return trace;
        }
    }

    static class Aunt extends Any {
        Aunt(Guest g, List<Integer> t) {
            super(g, t);
        }

        @Override public int size() {
            trace.add(11);
            return super.size() + mark();
        }

        @Override public int mark() {
            trace.add(21);
            return super.mark() + guest.well;
        }
    }

    static class Rival extends Aunt {
        Rival(Guest g, List<Integer> t) {
            super(g, t);
        }

        @Override public int size() {
            trace.add(12);
            return 0 - super.size();
        }

        @Override public int mark() {
            trace.add(24);
            return super.mark() * 2;
        }
    }

    static class Child extends Aunt {
        Child(Guest g, List<Integer> t) {
            super(g, t);
        }

        @Override public int mark() {
            trace.add(22);
            return super.mark() - 1000;
        }
    }

    static class Man extends Any {
        Man(Guest g, List<Integer> t) {
            super(g, t);
        }

        @Override public int size() {
            trace.add(13);
            return super.size() - 100;
        }

        @Override public int mark() {
            trace.add(23);
            int given = super.mark();
            return given - size();
        }
    }

    static class Onion extends Man {
        Onion(Guest g, List<Integer> t) {
            super(g, t);
        }

        @Override public int size() {
            trace.add(14);
            return super.size() * 2;
        }
    }

    static final class Guest {
        int number, kind, start, well, fee, last;
        boolean hired = true;

        Guest twin() {
            Guest g = new Guest();
            g.number = number;
            g.kind = kind;
            g.start = start;
            g.well = well;
            g.fee = fee;
            g.last = last;
            g.hired = hired;
            return g;
        }
    }

    /** A wedding whose pew lists the guests as they sit. */
    static final class Pew {
        int need, hymns, minute, bottle, paid;
        List<Guest> pew = new ArrayList<>();

        Pew twin() {
            Pew p = new Pew();
            p.need = need;
            p.hymns = hymns;
            p.minute = minute;
            p.bottle = bottle;
            p.paid = paid;
            for (Guest g : pew) {
                p.pew.add(g.twin());
            }
            return p;
        }

        Guest of(int number) {
            for (Guest g : pew) {
                if (g.number == number) {
                    return g;
                }
            }
            return null;
        }

        void send(Guest g, boolean on) {
            g.hired = on;
            g.last = on ? g.last : 0;
        }

        void sendAll(int set) {
            for (Guest g : pew) {
                send(g, (set & 1 << g.number) != 0);
            }
        }

        void trade(int one, int other) {
            int a = pew.indexOf(of(one));
            int b = pew.indexOf(of(other));
            Guest held = pew.get(a);
            pew.set(a, pew.get(b));
            pew.set(b, held);
        }

        int would(Guest g) {
            List<Guest> beside = new ArrayList<>();
            int at = pew.indexOf(g);
            if (at > 0) {
                beside.add(pew.get(at - 1));
            }
            if (at + 1 < pew.size()) {
                beside.add(pew.get(at + 1));
            }
            int aunt = g.start + (int) beside.stream().filter(b -> b.last > 0).count();
            int man = (hymns & (1 << minute % 4)) != 0 ? g.start : 0;
            int most = beside.stream().mapToInt(b -> b.last).max().orElse(0);
            int would = 0;
            if (g.kind == 1) {
                would = aunt;
            } else if (g.kind == 2) {
                would = most > 0 && aunt < most + 1 ? most + 1 : aunt;
            } else if (g.kind == 3) {
                would = minute % 2 == 0 ? aunt : 0;
            } else if (g.kind == 4) {
                would = man;
            } else {
                would = man + 2;
            }
            would = would > 9 ? 9 : would;
            return would > g.well ? g.well : would;
        }

        void pass() {
            int[] shed = new int[pew.size()];
            for (int s = 0; s < shed.length; s++) {
                shed[s] = pew.get(s).hired ? would(pew.get(s)) : 0;
            }
            int off = 0;
            for (int s = 0; s < shed.length; s++) {
                Guest g = pew.get(s);
                g.last = shed[s];
                g.well -= shed[s];
                if (g.kind == 5) {
                    off += shed[s];
                } else {
                    bottle += shed[s];
                    paid += g.fee * shed[s];
                }
            }
            bottle = bottle > 999 ? 999 : bottle;
            bottle = bottle < off ? 0 : bottle - off;
            paid = paid > 99999 ? 99999 : paid;
            minute++;
        }

        Pew on(int d) {
            Pew p = twin();
            for (int m = 0; m < d; m++) {
                p.pass();
            }
            return p;
        }

        int hired() {
            int bits = 0;
            for (Guest g : pew) {
                bits += g.hired ? 1 << g.number : 0;
            }
            return bits;
        }
    }

    private final int[][] rows = new int[8][];
    private final int[] lanes = new int[8];
    private String tape = "";
    private int fault;
    private int status;
    private Pew now;
    private final Pew[] images = new Pew[2];
    private List<Pew> acts = new ArrayList<>();
    private List<Integer> trace = new ArrayList<>();

    private int found(int number) {
        status = number;
        return -1000010 - number;
    }

    private int fine(int answer) {
        status = 0;
        return answer;
    }

    private static boolean in(int n, int a, int b) {
        return a <= n && n <= b;
    }

    private boolean is(int guest) {
        return now != null && in(guest, 0, now.pew.size() - 1);
    }

    int row(int row, int lane, int n) {
        if (!in(row, 0, 7) || !in(lane, 0, 2) || n > 40) {
            return BAD;
        }
        if (n < 0) {
            return found(4);
        }
        rows[row] = new int[n];
        lanes[row] = lane;
        return fine(n);
    }

    int set(int row, int i, int v) {
        if (!in(row, 0, 7)) {
            return BAD;
        }
        if (rows[row] == null) {
            return found(1);
        }
        if (!in(i, 0, rows[row].length - 1)) {
            return found(2);
        }
        int spare = 32 - (8 << lanes[row]);
        rows[row][i] = v << spare >> spare;
        return fine(rows[row][i]);
    }

    int copy(int a, int i, int b, int j, int n) {
        if (!in(a, 0, 7) || !in(b, 0, 7)) {
            return BAD;
        }
        if (rows[a] == null || rows[b] == null) {
            return found(1);
        }
        if (lanes[a] != lanes[b]) {
            return found(5);
        }
        if (i < 0 || j < 0 || n < 0 || (long) i + n > rows[a].length || (long) j + n > rows[b].length) {
            return found(2);
        }
        int[] were = rows[a].clone();
        for (int k = 0; k < n; k++) {
            rows[b][j + k] = were[i + k];
        }
        return fine(n);
    }

    int drop(int row) {
        if (!in(row, 0, 7)) {
            return BAD;
        }
        if (rows[row] == null) {
            return found(1);
        }
        int had = rows[row].length;
        rows[row] = null;
        return fine(had);
    }

    int feed(int letter) {
        if (!in(letter, 0, 255)) {
            return BAD;
        }
        if (tape.length() == 110) {
            return FULL;
        }
        tape += (char) letter;
        return tape.length();
    }

    /** TOKENS are told first, then held against what is due by their number: w N , N ; then S N , N , N ; again and again. */
    int wedding() {
        List<String> tokens = new ArrayList<>();
        List<Integer> places = new ArrayList<>();
        for (int at = 0; at < tape.length();) {
            int end = at + 1;
            if (Character.isDigit(tape.charAt(at))) {
                while (end < tape.length() && Character.isDigit(tape.charAt(end))) {
                    end++;
                }
            }
            tokens.add(tape.substring(at, end));
            places.add(at);
            at = end;
        }
        tokens.add("");
        places.add(tape.length());
        tape = "";
        String law = "wN,H;";
        String guest = "SF,L,F;";
        Pew read = new Pew();
        Guest g = null;
        for (int k = 0; k < tokens.size(); k++) {
            boolean ofLaw = k < 5;
            char due = ofLaw ? law.charAt(k) : guest.charAt((k - 5) % 7);
            String token = tokens.get(k);
            if (token.isEmpty() && k > 5 && due == 'S') {
                break;
            }
            int wrong = faultOf(token, due, read.pew.size());
            if (wrong != 0) {
                fault = wrong;
                return -1000100 - places.get(k);
            }
            int part = (k - 5) % 7;
            if (due == 'N') {
                read.need = Integer.parseInt(token);
            } else if (due == 'H') {
                read.hymns = Integer.parseInt(token);
            } else if (due == 'S') {
                g = new Guest();
                g.kind = " arcmo".indexOf(token);
                g.number = read.pew.size();
                read.pew.add(g);
            } else if (!ofLaw && part == 1) {
                g.start = Integer.parseInt(token);
            } else if (!ofLaw && part == 3) {
                g.well = Integer.parseInt(token);
            } else if (!ofLaw && part == 5) {
                g.fee = Integer.parseInt(token);
            }
        }
        now = read;
        acts = new ArrayList<>();
        return now.pew.size();
    }

    private static int faultOf(String token, char due, int guests) {
        if ("NHFL".indexOf(due) >= 0) {
            if (!token.matches("[0-9]{1,2}")) {
                return 1;
            }
            int n = Integer.parseInt(token);
            int most = due == 'H' ? 15 : due == 'F' ? 9 : 99;
            return n > most || due == 'N' && n == 0 ? 2 : 0;
        }
        if (due == 'S') {
            return !token.matches("[arcmo]") ? 1 : guests == 7 ? 3 : 0;
        }
        return token.equals("" + due) ? 0 : 1;
    }

    int fault() {
        return fault;
    }

    private void keep() {
        acts.add(now.twin());
        if (acts.size() > 24) {
            acts.remove(0);
        }
    }

    int minutes(int n) {
        if (now == null) {
            return STATE;
        }
        if (!in(n, 1, 24)) {
            return BAD;
        }
        if (now.minute + n > 9999) {
            return FULL;
        }
        for (int m = 0; m < n; m++) {
            keep();
            now.pass();
        }
        return now.bottle;
    }

    int hire(int guest, int on) {
        if (!is(guest) || !in(on, 0, 1)) {
            return BAD;
        }
        if (now.of(guest).hired == (on == 1)) {
            return STATE;
        }
        keep();
        now.send(now.of(guest), on == 1);
        return now.hired();
    }

    int swap(int one, int other) {
        if (!is(one) || !is(other) || one == other) {
            return BAD;
        }
        keep();
        now.trade(one, other);
        return now.pew.indexOf(now.of(one));
    }

    int hymns(int v) {
        if (now == null) {
            return STATE;
        }
        if (!in(v, 0, 15)) {
            return BAD;
        }
        keep();
        int were = now.hymns;
        now.hymns = v;
        return were;
    }

    int undo() {
        if (acts.isEmpty()) {
            return STATE;
        }
        now = acts.remove(acts.size() - 1);
        return acts.size();
    }

    int guest(int guest, int what) {
        if (!is(guest) || !in(what, 0, 6)) {
            return BAD;
        }
        Guest g = now.of(guest);
        int[] all = {g.start, g.well, g.fee, now.pew.indexOf(g), g.hired ? 1 : 0, g.last, now.would(g)};
        return all[what];
    }

    int seat(int seat) {
        return is(seat) ? now.pew.get(seat).number : BAD;
    }

    int ahead(int guest, int d, int what) {
        if (!is(guest) || !in(d, 0, 60) || !in(what, 0, 1)) {
            return BAD;
        }
        Guest g = now.on(d).of(guest);
        return what == 0 ? g.last : g.well;
    }

    int bottle(int d, int what) {
        if (now == null) {
            return STATE;
        }
        if (!in(d, 0, 60) || !in(what, 0, 1)) {
            return BAD;
        }
        return what == 0 ? now.on(d).bottle : now.on(d).paid;
    }

    int filled() {
        if (now == null) {
            return STATE;
        }
        for (int d = 0; d <= 60; d++) {
            if (now.on(d).bottle >= now.need) {
                return d;
            }
        }
        return NONE;
    }

    int dry(int what) {
        if (now == null) {
            return STATE;
        }
        if (!in(what, 0, 1)) {
            return BAD;
        }
        for (int d = 0; d <= 60; d++) {
            Pew p = now.on(d);
            for (int g = 0; g < p.pew.size(); g++) {
                if (p.of(g).hired && p.of(g).well == 0) {
                    return what == 0 ? g : d;
                }
            }
        }
        return NONE;
    }

    int hiring(int n, int what) {
        if (now == null) {
            return STATE;
        }
        if (!in(n, 1, 30) || !in(what, 0, 1)) {
            return BAD;
        }
        long best = Long.MAX_VALUE;
        for (int set = (1 << now.pew.size()) - 1; set >= 0; set--) {
            Pew p = now.twin();
            p.sendAll(set);
            p = p.on(n);
            if (p.bottle >= p.need) {
                best = Math.min(best, (p.paid * 10L + Integer.bitCount(set)) * 1000 + set);
            }
        }
        if (best == Long.MAX_VALUE) {
            return NONE;
        }
        return (int) (what == 0 ? best % 1000 : best / 10000);
    }

    private int bestOrder, bestMuch;

    int order(int n, int what) {
        if (now == null) {
            return STATE;
        }
        if (!in(n, 1, 10) || !in(what, 0, 1)) {
            return BAD;
        }
        bestMuch = -1;
        seatNext(new ArrayList<>(), n);
        return what == 0 ? bestOrder : bestMuch;
    }

    private void seatNext(List<Guest> seated, int n) {
        if (seated.size() == now.pew.size()) {
            Pew p = now.twin();
            p.pew = new ArrayList<>(seated);
            int much = p.on(n).bottle;
            if (much > bestMuch) {
                bestMuch = much;
                bestOrder = 0;
                for (Guest g : seated) {
                    bestOrder = bestOrder * 10 + g.number;
                }
            }
            return;
        }
        for (int g = 0; g < now.pew.size(); g++) {
            if (!seated.contains(now.of(g))) {
                seated.add(now.of(g));
                seatNext(seated, n);
                seated.remove(seated.size() - 1);
            }
        }
    }

    int change(int n, int what) {
        if (now == null) {
            return STATE;
        }
        if (!in(n, 1, 30) || !in(what, 0, 1)) {
            return BAD;
        }
        int pair = NONE;
        int much = NONE;
        for (int number = 0; number < 100; number++) {
            int a = number / 10;
            int b = number % 10;
            if (a < b && is(b)) {
                Pew p = now.twin();
                p.trade(a, b);
                int then = p.on(n).bottle;
                if (then > much) {
                    pair = number;
                    much = then;
                }
            }
        }
        return what == 0 ? pair : much;
    }

    int fits(int guest, int row, int i, int n, int what) {
        if (!is(guest) || !in(row, 0, 7) || !in(n, 1, 12) || !in(what, 0, 4)) {
            return BAD;
        }
        if (rows[row] == null) {
            return found(1);
        }
        if (i < 0 || (long) i + n > rows[row].length) {
            return found(2);
        }
        int[] first = {1, 0, 0, 0, 0};
        int[] last = {5, 9, 15, 99, 99};
        int bits = 0;
        int many = 0;
        int least = NONE;
        for (int v = last[what]; v >= first[what]; v--) {
            Pew p = now.twin();
            Guest g = p.of(guest);
            g.kind = what == 0 ? v : g.kind;
            g.start = what == 1 ? v : g.start;
            p.hymns = what == 2 ? v : p.hymns;
            g.well = what >= 3 ? v : g.well;
            boolean so = true;
            for (int m = 1; m <= n; m++) {
                so = so && p.on(m).of(guest).last == rows[row][i + m - 1];
            }
            if (so) {
                bits |= what < 3 ? 1 << v : 0;
                many++;
                least = v;
            }
        }
        return fine(what < 3 ? bits : what == 3 ? many : least);
    }

    int away(int n, int c, int what) {
        if (now == null) {
            return STATE;
        }
        if (!in(n, 0, 30) || !in(c, 0, 10) || !in(what, 0, 1)) {
            return BAD;
        }
        BigInteger above = ways(now.twin(), 0, n, c);
        BigInteger below = BigInteger.TEN.pow(Integer.bitCount(now.hired()));
        BigInteger common = above.gcd(below);
        return (what == 0 ? above : below).divide(common).intValueExact();
    }

    private BigInteger ways(Pew p, int guest, int n, int c) {
        if (guest == p.pew.size()) {
            return p.on(n).bottle >= p.need ? BigInteger.ONE : BigInteger.ZERO;
        }
        if (!p.of(guest).hired) {
            return ways(p, guest + 1, n, c);
        }
        BigInteger stays = ways(p.twin(), guest + 1, n, c).multiply(BigInteger.valueOf(10 - c));
        Pew without = p.twin();
        without.send(without.of(guest), false);
        return stays.add(ways(without, guest + 1, n, c).multiply(BigInteger.valueOf(c)));
    }

    int drawn(int n, int seed, int what) {
        if (now == null) {
            return STATE;
        }
        if (!in(n, 0, 60) || !in(seed, 1, 999999) || !in(what, 0, 1)) {
            return BAD;
        }
        Pew p = now.twin();
        BigInteger x = BigInteger.valueOf(seed);
        for (int m = 0; m < n; m++) {
            x = x.multiply(BigInteger.valueOf(16807)).mod(BigInteger.valueOf(2147483647));
            Guest g = p.of(x.mod(BigInteger.valueOf(p.pew.size())).intValue());
            p.send(g, !g.hired);
            int s = x.mod(BigInteger.valueOf(7)).intValue();
            if (s + 1 < p.pew.size()) {
                p.trade(p.pew.get(s).number, p.pew.get(s + 1).number);
            }
            p.pass();
        }
        return what == 0 ? p.bottle : p.paid;
    }

    int image(int k) {
        if (!in(k, 0, 1)) {
            return BAD;
        }
        if (now == null) {
            return STATE;
        }
        images[k] = now.twin();
        return 1;
    }

    int restore(int k) {
        if (!in(k, 0, 1)) {
            return BAD;
        }
        if (images[k] == null) {
            return STATE;
        }
        now = images[k].twin();
        acts = new ArrayList<>();
        return 1;
    }

    int kind(int guest) {
        return is(guest) ? now.of(guest).kind : BAD;
    }

    private Asked asked(Guest g, List<Integer> into) {
        switch (g.kind) {
            case 1: return new Aunt(g, into);
            case 2: return new Rival(g, into);
            case 3: return new Child(g, into);
            case 4: return new Man(g, into);
            default: return new Onion(g, into);
        }
    }

    int as(int guest, int kind) {
        if (!is(guest) || !in(kind, 0, 5)) {
            return BAD;
        }
        Class<?>[] kinds = {Asked.class, Aunt.class, Rival.class, Child.class, Man.class, Onion.class};
        return kinds[kind].isInstance(asked(now.of(guest), trace)) ? fine(guest) : found(3);
    }

    int ask(int guest, int what) {
        if (!is(guest) || !in(what, 0, 1)) {
            return BAD;
        }
        trace = new ArrayList<>();
        Asked asked = asked(now.of(guest), trace);
        return what == 0 ? asked.size() : asked.mark();
    }

    int trace(int i) {
        return in(i, 0, Math.min(16, trace.size()) - 1) ? trace.get(i) : NONE;
    }

    int count(int what) {
        if (!in(what, 0, 9)) {
            return BAD;
        }
        int there = 0;
        for (int[] row : rows) {
            there += row != null ? 1 : 0;
        }
        if (what == 0) {
            return there;
        }
        if (what == 9) {
            return tape.length();
        }
        if (now == null) {
            return 0;
        }
        int[] all = {there, now.pew.size(), now.minute, now.need, now.hymns, now.bottle, now.paid, now.hired(), acts.size()};
        return all[what];
    }

    int status() {
        return status;
    }
}
