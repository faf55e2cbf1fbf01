/** Wedding guests that are paid by the tear: what they shed, what it costs, whom to hire and how to seat them. */
public final class TearGuests {
    public static final int NONE = -1000000, BAD = -1000001, STATE = -1000002, FULL = -1000003;

    private static final int FOUND = -1000010, FAULTY = -1000100;
    private static final int NULL = 1, PLACE = 2, NOT_THAT = 3, SIZE = 4, STORE = 5;

    private static final int ROWS = 8, LANES = 3, ITEMS = 40;
    private static final int TAPE = 110;
    private static final int GUESTS = 7, SORTS = 5, STARTS = 10, HYMNS = 16, WELLS = 100;
    private static final int SHED_MOST = 9, BOTTLE_MOST = 999, PAID_MOST = 99999;
    private static final int LAST_MINUTE = 9999, MINUTES_AT_ONCE = 24, ACTS_KEPT = 24, IMAGES = 2;
    private static final int FORETOLD = 60, PLANNED = 30, SEATED = 10, TOLD = 12;
    private static final int TENTHS = 10, DIVISIONS = 64, SEEDS = 999999, TRACED = 16;

    private static final int AUNT = 1, RIVAL = 2, CHILD = 3, MAN = 4, ONION = 5;
    /** What each KIND is besides itself; a GUEST is nothing besides. */
    private static final int[] IS_ALSO = {0, 0, 1, 1, 0, 4};
    /** From a KIND up to GUEST there are at most this many. */
    private static final int KINDS_UP = 3;
    /** The BODY by which SIZE begins for each KIND: its own, or that of the nearest KIND that it is. */
    private static final int[] SIZE_BODY = {10, 11, 12, 11, 13, 14};
    /** The BODY by which MARK begins for each KIND. */
    private static final int[] MARK_BODY = {20, 21, 24, 22, 23, 23};
    /** No ask goes deeper than this many BODIES: 12, 11, 24, 21, 20 is the longest chain. */
    private static final int BODIES_DEEP = 8;

    private final Row[] rows = new Row[ROWS];
    private final Reader reader = new Reader();
    private final Wedding now = new Wedding();
    private final Acts acts = new Acts();
    private final Forecast forecast = new Forecast();
    private final Guess guess = new Guess();
    private final Wedding[] images = new Wedding[IMAGES];
    private final int[] traced = new int[TRACED];
    private int traces;
    private int finding;

    public TearGuests() {
        for (int r = 0; r < ROWS; r++) {
            rows[r] = new Row();
        }
        for (int k = 0; k < IMAGES; k++) {
            images[k] = new Wedding();
        }
    }

    // ---- rows

    public int row(int row, int lane, int n) {
        if (!isRow(row) || lane < 0 || lane >= LANES || n > ITEMS) {
            return BAD;
        }
        if (n < 0) {
            return find(SIZE);
        }
        rows[row].make(lane, n);
        return findNothing(n);
    }

    public int set(int row, int i, int v) {
        if (!isRow(row)) {
            return BAD;
        }
        if (!rows[row].there) {
            return find(NULL);
        }
        if (!rows[row].spans(i, 1)) {
            return find(PLACE);
        }
        return findNothing(rows[row].put(i, v));
    }

    public int copy(int a, int i, int b, int j, int n) {
        if (!isRow(a) || !isRow(b)) {
            return BAD;
        }
        Row from = rows[a];
        Row to = rows[b];
        if (!from.there || !to.there) {
            return find(NULL);
        }
        if (from.lane != to.lane) {
            return find(STORE);
        }
        if (!from.spans(i, n) || !to.spans(j, n)) {
            return find(PLACE);
        }
        System.arraycopy(from.items, i, to.items, j, n);
        return findNothing(n);
    }

    public int drop(int row) {
        if (!isRow(row)) {
            return BAD;
        }
        if (!rows[row].there) {
            return find(NULL);
        }
        rows[row].there = false;
        return findNothing(rows[row].size);
    }

    // ---- weddings, acts

    public int feed(int letter) {
        if (letter < 0 || letter > 255) {
            return BAD;
        }
        return reader.take(letter) ? reader.size : FULL;
    }

    public int wedding() {
        boolean fine = reader.read();
        if (!fine) {
            return FAULTY - reader.at;
        }
        now.become(reader.draft);
        acts.forget();
        return now.guests;
    }

    public int fault() {
        return reader.fault;
    }

    public int minutes(int n) {
        if (isNone()) {
            return STATE;
        }
        if (n < 1 || n > MINUTES_AT_ONCE) {
            return BAD;
        }
        if (now.minute > LAST_MINUTE - n) {
            return FULL;
        }
        for (int m = 0; m < n; m++) {
            acts.keep(now);
            now.pass();
        }
        return now.bottle;
    }

    public int hire(int guest, int on) {
        if (!now.has(guest) || on < 0 || on > 1) {
            return BAD;
        }
        if (now.isHired(guest) == (on == 1)) {
            return STATE;
        }
        acts.keep(now);
        now.engage(now.hired ^ (1 << guest));
        return now.hired;
    }

    public int swap(int one, int other) {
        if (!now.has(one) || !now.has(other) || one == other) {
            return BAD;
        }
        acts.keep(now);
        now.trade(one, other);
        return now.seat[one];
    }

    public int hymns(int v) {
        if (isNone()) {
            return STATE;
        }
        if (v < 0 || v >= HYMNS) {
            return BAD;
        }
        acts.keep(now);
        int were = now.hymns;
        now.hymns = v;
        return were;
    }

    public int undo() {
        if (acts.size == 0) {
            return STATE;
        }
        acts.takeBack(now);
        return acts.size;
    }

    public int guest(int guest, int what) {
        if (!now.has(guest)) {
            return BAD;
        }
        switch (what) {
            case 0: return now.start[guest];
            case 1: return now.well[guest];
            case 2: return now.fee[guest];
            case 3: return now.seat[guest];
            case 4: return now.isHired(guest) ? 1 : 0;
            case 5: return now.last[guest];
            case 6: return now.sheds(guest);
            default: return BAD;
        }
    }

    public int seat(int seat) {
        // There are as many SEATS as GUESTS, by the same numbers.
        return now.has(seat) ? now.sitter[seat] : BAD;
    }

    // ---- foretold

    public int ahead(int guest, int d, int what) {
        if (!now.has(guest) || !isWithin(d, 0, FORETOLD) || !isFlag(what)) {
            return BAD;
        }
        Wedding later = forecast.after(now, d);
        return what == 0 ? later.last[guest] : later.well[guest];
    }

    public int bottle(int d, int what) {
        if (isNone()) {
            return STATE;
        }
        if (!isWithin(d, 0, FORETOLD) || !isFlag(what)) {
            return BAD;
        }
        Wedding later = forecast.after(now, d);
        return what == 0 ? later.bottle : later.paid;
    }

    public int filled() {
        if (isNone()) {
            return STATE;
        }
        return forecast.minutesToFull(now);
    }

    public int dry(int what) {
        if (isNone()) {
            return STATE;
        }
        if (!isFlag(what)) {
            return BAD;
        }
        forecast.findDry(now);
        return forecast.answer(what);
    }

    public int hiring(int n, int what) {
        if (isNone()) {
            return STATE;
        }
        if (!isWithin(n, 1, PLANNED) || !isFlag(what)) {
            return BAD;
        }
        forecast.findCheapest(now, n);
        return forecast.answer(what);
    }

    public int order(int n, int what) {
        if (isNone()) {
            return STATE;
        }
        if (!isWithin(n, 1, SEATED) || !isFlag(what)) {
            return BAD;
        }
        forecast.findOrder(now, n);
        return forecast.answer(what);
    }

    public int change(int n, int what) {
        if (isNone()) {
            return STATE;
        }
        if (!isWithin(n, 1, PLANNED) || !isFlag(what)) {
            return BAD;
        }
        forecast.findChange(now, n);
        return forecast.answer(what);
    }

    public int fits(int guest, int row, int i, int n, int what) {
        if (!now.has(guest) || !isRow(row) || !isWithin(n, 1, TOLD) || !isWithin(what, 0, 4)) {
            return BAD;
        }
        if (!rows[row].there) {
            return find(NULL);
        }
        if (!rows[row].spans(i, n)) {
            return find(PLACE);
        }
        guess.listen(guest, rows[row].items, i, n);
        finding = 0;
        switch (what) {
            case 0: return guess.sorts(now);
            case 1: return guess.starts(now);
            case 2: return guess.hymnsHeard(now);
            case 3: return guess.wells(now);
            default: return guess.leastWell(now);
        }
    }

    public int away(int n, int c, int what) {
        if (isNone()) {
            return STATE;
        }
        if (!isWithin(n, 0, PLANNED) || !isWithin(c, 0, TENTHS) || !isFlag(what)) {
            return BAD;
        }
        forecast.weighAway(now, n, c);
        return forecast.answer(what);
    }

    public int drawn(int n, int seed, int what) {
        if (isNone()) {
            return STATE;
        }
        if (!isWithin(n, 0, FORETOLD) || !isWithin(seed, 1, SEEDS) || !isFlag(what)) {
            return BAD;
        }
        Wedding later = forecast.season(now, n, seed);
        return what == 0 ? later.bottle : later.paid;
    }

    public int image(int k) {
        if (k < 0 || k >= IMAGES) {
            return BAD;
        }
        if (isNone()) {
            return STATE;
        }
        images[k].become(now);
        return 1;
    }

    public int restore(int k) {
        if (k < 0 || k >= IMAGES) {
            return BAD;
        }
        // A WEDDING has a GUEST at least, so that an IMAGE without any was never kept.
        if (images[k].guests == 0) {
            return STATE;
        }
        now.become(images[k]);
        acts.forget();
        return 1;
    }

    // ---- asked

    public int kind(int guest) {
        return now.has(guest) ? now.kind[guest] : BAD;
    }

    public int as(int guest, int kind) {
        if (!now.has(guest) || kind < 0 || kind > SORTS) {
            return BAD;
        }
        return isOf(now.kind[guest], kind) ? findNothing(guest) : find(NOT_THAT);
    }

    public int ask(int guest, int what) {
        if (!now.has(guest) || !isFlag(what)) {
            return BAD;
        }
        traces = 0;
        int kind = now.kind[guest];
        return give(what == 0 ? SIZE_BODY[kind] : MARK_BODY[kind], guest, 0);
    }

    public int trace(int i) {
        return i < 0 || i >= traces ? NONE : traced[i];
    }

    public int count(int what) {
        switch (what) {
            case 0: return rowsThere();
            case 1: return now.guests;
            case 2: return now.minute;
            case 3: return now.need;
            case 4: return now.hymns;
            case 5: return now.bottle;
            case 6: return now.paid;
            case 7: return now.hired;
            case 8: return acts.size;
            case 9: return reader.size;
            default: return BAD;
        }
    }

    public int status() {
        return finding;
    }

    // ---- what the calls share

    private static boolean isWithin(int n, int least, int most) {
        return n >= least && n <= most;
    }

    private static boolean isFlag(int what) {
        return what == 0 || what == 1;
    }

    private static boolean isRow(int row) {
        return row >= 0 && row < ROWS;
    }

    private boolean isNone() {
        return now.guests == 0;
    }

    private int find(int number) {
        finding = number;
        return FOUND - number;
    }

    private int findNothing(int answer) {
        finding = 0;
        return answer;
    }

    private int rowsThere() {
        int there = 0;
        for (int r = 0; r < ROWS; r++) {
            if (rows[r].there) {
                there++;
            }
        }
        return there;
    }

    private static boolean isOf(int kind, int other) {
        int up = kind;
        for (int step = 0; step < KINDS_UP; step++) {
            if (up == other) {
                return true;
            }
            up = IS_ALSO[up];
        }
        return false;
    }

    /** What a BODY gives for a GUEST; SIZE and MARK within it are asked anew by the GUEST's own KIND. */
    private int give(int body, int guest, int depth) {
        if (depth >= BODIES_DEEP) {
            return 0;
        }
        leaveTrace(body);
        int next = depth + 1;
        int kind = now.kind[guest];
        switch (body) {
            case 10: return now.start[guest];
            case 11: return give(10, guest, next) + give(MARK_BODY[kind], guest, next);
            case 12: return -give(11, guest, next);
            case 13: return give(10, guest, next) - 100;
            case 14: return 2 * give(13, guest, next);
            case 20: return guest;
            case 21: return give(20, guest, next) + now.well[guest];
            case 22: return give(21, guest, next) - 1000;
            case 23: return give(20, guest, next) - give(SIZE_BODY[kind], guest, next);
            case 24: return 2 * give(21, guest, next);
            default: return 0;
        }
    }

    private void leaveTrace(int body) {
        if (traces < TRACED) {
            traced[traces] = body;
            traces++;
        }
    }

    /** A ROW, made once and used again; its ITEMS are ints whatever its LANE, cut as they come in. */
    private static final class Row {
        boolean there;
        int lane;
        int size;
        final int[] items = new int[ITEMS];

        void make(int ofLane, int n) {
            there = true;
            lane = ofLane;
            size = n;
            for (int i = 0; i < ITEMS; i++) {
                items[i] = 0;
            }
        }

        /** Asked by what is left behind i, since i and n together may be beyond an int. */
        boolean spans(int i, int n) {
            return i >= 0 && n >= 0 && i <= size && n <= size - i;
        }

        int put(int i, int v) {
            items[i] = cut(v);
            return items[i];
        }

        private int cut(int v) {
            switch (lane) {
                case 0: return (byte) v;
                case 1: return (short) v;
                default: return v;
            }
        }
    }

    /** A WEDDING as it stands; the same class holds what is kept of one and what is foretold. */
    private static final class Wedding {
        int guests;
        int need;
        int hymns;
        int minute;
        int bottle;
        int paid;
        int hired;
        final int[] kind = new int[GUESTS];
        final int[] start = new int[GUESTS];
        final int[] fee = new int[GUESTS];
        final int[] well = new int[GUESTS];
        final int[] last = new int[GUESTS];
        final int[] seat = new int[GUESTS];
        final int[] sitter = new int[GUESTS];
        private final int[] shed = new int[GUESTS];

        boolean has(int guest) {
            return guest >= 0 && guest < guests;
        }

        boolean isHired(int guest) {
            return (hired >> guest & 1) == 1;
        }

        boolean isFull() {
            return bottle >= need;
        }

        void become(Wedding other) {
            guests = other.guests;
            need = other.need;
            hymns = other.hymns;
            minute = other.minute;
            bottle = other.bottle;
            paid = other.paid;
            hired = other.hired;
            System.arraycopy(other.kind, 0, kind, 0, GUESTS);
            System.arraycopy(other.start, 0, start, 0, GUESTS);
            System.arraycopy(other.fee, 0, fee, 0, GUESTS);
            System.arraycopy(other.well, 0, well, 0, GUESTS);
            System.arraycopy(other.last, 0, last, 0, GUESTS);
            System.arraycopy(other.seat, 0, seat, 0, GUESTS);
            System.arraycopy(other.sitter, 0, sitter, 0, GUESTS);
        }

        /** A GUEST more, HIRED, in the next SEAT; the caller has seen that there is room. */
        void welcome(int ofKind, int starts, int holds, int costs) {
            kind[guests] = ofKind;
            start[guests] = starts;
            well[guests] = holds;
            fee[guests] = costs;
            last[guests] = 0;
            seat[guests] = guests;
            sitter[guests] = guests;
            hired = hired | 1 << guests;
            guests++;
        }

        void engage(int set) {
            hired = set;
            for (int g = 0; g < guests; g++) {
                if (!isHired(g)) {
                    last[g] = 0;
                }
            }
        }

        void trade(int one, int other) {
            int place = seat[one];
            sit(one, seat[other]);
            sit(other, place);
        }

        void sit(int guest, int place) {
            seat[guest] = place;
            sitter[place] = guest;
        }

        /** What a GUEST would shed in this MINUTE, were it HIRED. */
        int sheds(int guest) {
            int left = lastIn(seat[guest] - 1);
            int right = lastIn(seat[guest] + 1);
            int aunt = start[guest] + (left > 0 ? 1 : 0) + (right > 0 ? 1 : 0);
            int man = (hymns >> (minute & 3) & 1) == 1 ? start[guest] : 0;
            int would = aunt;
            switch (kind[guest]) {
                case RIVAL:
                    would = left > 0 || right > 0 ? Math.max(aunt, Math.max(left, right) + 1) : aunt;
                    break;
                case CHILD:
                    would = (minute & 1) == 1 ? 0 : aunt;
                    break;
                case MAN:
                    would = man;
                    break;
                case ONION:
                    would = man + 2;
                    break;
                default:
                    break;
            }
            return Math.min(Math.min(would, SHED_MOST), well[guest]);
        }

        private int lastIn(int place) {
            return place >= 0 && place < guests ? last[sitter[place]] : 0;
        }

        /** A MINUTE: all weep by what was shed before it, so nobody's LAST is changed until all have shed. */
        void pass() {
            for (int g = 0; g < guests; g++) {
                shed[g] = isHired(g) ? sheds(g) : 0;
            }
            int in = 0;
            int off = 0;
            int due = 0;
            for (int g = 0; g < guests; g++) {
                int tears = shed[g];
                last[g] = tears;
                well[g] -= tears;
                if (kind[g] == ONION) {
                    off += tears;
                } else {
                    in += tears;
                    due += fee[g] * tears;
                }
            }
            bottle = Math.max(0, Math.min(BOTTLE_MOST, bottle + in) - off);
            paid = Math.min(PAID_MOST, paid + due);
            minute++;
        }

        void run(int n) {
            for (int m = 0; m < n; m++) {
                pass();
            }
        }
    }

    /** THE TAPE, and how a WEDDING is read from it. */
    private static final class Reader {
        private static final int CANNOT_STAND = 1, NOT_AS_TOLD = 2, NO_ROOM = 3;

        final Wedding draft = new Wedding();
        private final int[] bytes = new int[TAPE];
        int size;
        /** The place of the TOKEN that is looked at; behind a FAULT, that of the FAULT. */
        int at;
        int fault;

        boolean take(int letter) {
            if (size >= TAPE) {
                return false;
            }
            bytes[size] = letter;
            size++;
            return true;
        }

        /** Reads all into the draft and empties the tape; false: there is a FAULT. */
        boolean read() {
            at = 0;
            draft.guests = 0;
            draft.hired = 0;
            boolean fine = readLaw() && readGuest();
            for (int more = 0; more < TAPE && fine && at < size; more++) {
                fine = readGuest();
            }
            size = 0;
            return fine;
        }

        private boolean readLaw() {
            if (!sign('w')) {
                return false;
            }
            draft.need = number(1, 99);
            if (draft.need < 0 || !sign(',')) {
                return false;
            }
            draft.hymns = number(0, HYMNS - 1);
            return draft.hymns >= 0 && sign(';');
        }

        private boolean readGuest() {
            int sort = at < size ? sortOf(bytes[at]) : 0;
            if (sort == 0) {
                return refuse(CANNOT_STAND);
            }
            if (draft.guests >= GUESTS) {
                return refuse(NO_ROOM);
            }
            at++;
            int starts = number(0, STARTS - 1);
            if (starts < 0 || !sign(',')) {
                return false;
            }
            int holds = number(0, WELLS - 1);
            if (holds < 0 || !sign(',')) {
                return false;
            }
            int costs = number(0, 9);
            if (costs < 0 || !sign(';')) {
                return false;
            }
            draft.welcome(sort, starts, holds, costs);
            return true;
        }

        private static int sortOf(int letter) {
            switch (letter) {
                case 'a': return AUNT;
                case 'r': return RIVAL;
                case 'c': return CHILD;
                case 'm': return MAN;
                case 'o': return ONION;
                default: return 0;
            }
        }

        private boolean sign(int due) {
            if (at >= size || bytes[at] != due) {
                return refuse(CANNOT_STAND);
            }
            at++;
            return true;
        }

        /** A NUMBER within bounds; -1: it is none, or not as told. */
        private int number(int least, int most) {
            int end = at;
            int value = 0;
            while (end < size && end < at + 3 && isFigure(bytes[end])) {
                value = value * 10 + bytes[end] - '0';
                end++;
            }
            if (end == at || end == at + 3) {
                refuse(CANNOT_STAND);
                return -1;
            }
            if (value < least || value > most) {
                refuse(NOT_AS_TOLD);
                return -1;
            }
            at = end;
            return value;
        }

        private static boolean isFigure(int letter) {
            return letter >= '0' && letter <= '9';
        }

        private boolean refuse(int number) {
            fault = number;
            return false;
        }
    }

    /** The ACTS that can be undone, as the WEDDING was ahead of each, in a ring. */
    private static final class Acts {
        private final Wedding[] before = new Wedding[ACTS_KEPT];
        private int next;
        int size;

        Acts() {
            for (int i = 0; i < ACTS_KEPT; i++) {
                before[i] = new Wedding();
            }
        }

        void keep(Wedding now) {
            before[next].become(now);
            next = next == ACTS_KEPT - 1 ? 0 : next + 1;
            size = Math.min(ACTS_KEPT, size + 1);
        }

        /** The caller has seen that there is one. */
        void takeBack(Wedding now) {
            next = next == 0 ? ACTS_KEPT - 1 : next - 1;
            size--;
            now.become(before[next]);
        }

        void forget() {
            size = 0;
        }
    }

    /** What is foretold of a WEDDING, played on a WEDDING of its own so that the one at hand stays as it is. */
    private static final class Forecast {
        private final Wedding later = new Wedding();
        private final int[] order = new int[GUESTS];
        /** What was found last, and how much it is. */
        private int which;
        private int much;

        int answer(int what) {
            return what == 0 ? which : much;
        }

        Wedding after(Wedding now, int d) {
            later.become(now);
            later.run(d);
            return later;
        }

        int minutesToFull(Wedding now) {
            later.become(now);
            for (int d = 0; d <= FORETOLD; d++) {
                if (later.isFull()) {
                    return d;
                }
                later.pass();
            }
            return NONE;
        }

        void findDry(Wedding now) {
            which = NONE;
            much = NONE;
            later.become(now);
            for (int d = 0; d <= FORETOLD && which == NONE; d++) {
                which = firstDry();
                much = which == NONE ? NONE : d;
                later.pass();
            }
        }

        private int firstDry() {
            for (int g = 0; g < later.guests; g++) {
                if (later.isHired(g) && later.well[g] == 0) {
                    return g;
                }
            }
            return NONE;
        }

        void findCheapest(Wedding now, int n) {
            which = NONE;
            much = NONE;
            int sets = 1 << now.guests;
            for (int set = 0; set < sets; set++) {
                if (fillsWith(now, set, n) && isCheaper(set, later.paid)) {
                    which = set;
                    much = later.paid;
                }
            }
        }

        private boolean fillsWith(Wedding now, int set, int n) {
            later.become(now);
            later.engage(set);
            later.run(n);
            return later.isFull();
        }

        /** Sets come by their bits, so of those that are alike in all the first is the one with the least. */
        private boolean isCheaper(int set, int paid) {
            if (which == NONE || paid != much) {
                return which == NONE || paid < much;
            }
            return Integer.bitCount(set) < Integer.bitCount(which);
        }

        void findOrder(Wedding now, int n) {
            which = NONE;
            much = NONE;
            int orders = 1;
            for (int g = 0; g < now.guests; g++) {
                order[g] = g;
                orders *= g + 1;
            }
            for (int turn = 0; turn < orders; turn++) {
                // An order and its mirror bring the same; the one that begins with the lesser GUEST comes first.
                if (now.guests > 0 && order[0] <= order[now.guests - 1]) {
                    tryOrder(now, n);
                }
                nextOrder(now.guests);
            }
        }

        private void tryOrder(Wedding now, int n) {
            later.become(now);
            int figures = 0;
            for (int place = 0; place < now.guests; place++) {
                later.sit(order[place], place);
                figures = figures * 10 + order[place];
            }
            later.run(n);
            keepIfMore(figures);
        }

        /** Of those that bring as much the first stays. */
        private void keepIfMore(int found) {
            if (later.bottle > much) {
                which = found;
                much = later.bottle;
            }
        }

        private void nextOrder(int size) {
            int turned = size - 2;
            while (turned >= 0 && order[turned] > order[turned + 1]) {
                turned--;
            }
            if (turned < 0) {
                return;
            }
            int above = size - 1;
            while (above > turned && order[above] < order[turned]) {
                above--;
            }
            exchange(turned, above);
            int high = size - 1;
            for (int low = turned + 1; low < high; low++) {
                exchange(low, high);
                high--;
            }
        }

        private void exchange(int a, int b) {
            int held = order[a];
            order[a] = order[b];
            order[b] = held;
        }

        void findChange(Wedding now, int n) {
            which = NONE;
            much = NONE;
            for (int a = 0; a < now.guests; a++) {
                for (int b = a + 1; b < now.guests; b++) {
                    later.become(now);
                    later.trade(a, b);
                    later.run(n);
                    keepIfMore(10 * a + b);
                }
            }
        }

        void weighAway(Wedding now, int n, int c) {
            int above = 0;
            int below = 1;
            for (int g = 0; g < now.guests; g++) {
                below *= now.isHired(g) ? TENTHS : 1;
            }
            int sets = 1 << now.guests;
            for (int set = 0; set < sets; set++) {
                if ((set & ~now.hired) == 0 && fillsWith(now, set, n)) {
                    above += waysToStay(now, set, c);
                }
            }
            int common = commonDivisor(above, below);
            which = common == 0 ? above : above / common;
            much = common == 0 ? below : below / common;
        }

        /** Of the ways (ten for each that is HIRED) those in which just this set stays. */
        private static int waysToStay(Wedding now, int set, int c) {
            int ways = 1;
            for (int g = 0; g < now.guests; g++) {
                if (now.isHired(g)) {
                    ways *= (set >> g & 1) == 1 ? TENTHS - c : c;
                }
            }
            return ways;
        }

        private static int commonDivisor(int a, int b) {
            int big = a;
            int small = b;
            for (int step = 0; step < DIVISIONS && small != 0; step++) {
                int rest = big % small;
                big = small;
                small = rest;
            }
            return big;
        }

        Wedding season(Wedding now, int n, int seed) {
            later.become(now);
            long x = seed;
            for (int m = 0; m < n && later.guests > 0; m++) {
                x = x * 16807 % 2147483647;
                later.engage(later.hired ^ 1 << (int) (x % later.guests));
                int place = (int) (x % 7);
                if (later.has(place + 1)) {
                    later.trade(later.sitter[place], later.sitter[place + 1]);
                }
                later.pass();
            }
            return later;
        }
    }

    /** What a GUEST may be like, and when there may be hymns, by what it is told to shed. */
    private static final class Guess {
        private final Wedding tried = new Wedding();
        private final int[] told = new int[TOLD];
        private int minutesTold;
        private int heard;

        /** The caller has seen that there are n ITEMS from i on, and no more than can be told. */
        void listen(int guest, int[] items, int i, int n) {
            System.arraycopy(items, i, told, 0, n);
            minutesTold = n;
            heard = guest;
        }

        private boolean isAsTold() {
            for (int m = 0; m < minutesTold; m++) {
                tried.pass();
                if (tried.last[heard] != told[m]) {
                    return false;
                }
            }
            return true;
        }

        int sorts(Wedding now) {
            int bits = 0;
            for (int kind = AUNT; kind <= SORTS; kind++) {
                tried.become(now);
                tried.kind[heard] = kind;
                bits |= isAsTold() ? 1 << kind : 0;
            }
            return bits;
        }

        int starts(Wedding now) {
            int bits = 0;
            for (int start = 0; start < STARTS; start++) {
                tried.become(now);
                tried.start[heard] = start;
                bits |= isAsTold() ? 1 << start : 0;
            }
            return bits;
        }

        int hymnsHeard(Wedding now) {
            int bits = 0;
            for (int hymns = 0; hymns < HYMNS; hymns++) {
                tried.become(now);
                tried.hymns = hymns;
                bits |= isAsTold() ? 1 << hymns : 0;
            }
            return bits;
        }

        int wells(Wedding now) {
            int fitting = 0;
            for (int well = 0; well < WELLS; well++) {
                fitting += isWell(now, well) ? 1 : 0;
            }
            return fitting;
        }

        int leastWell(Wedding now) {
            for (int well = 0; well < WELLS; well++) {
                if (isWell(now, well)) {
                    return well;
                }
            }
            return NONE;
        }

        private boolean isWell(Wedding now, int well) {
            tried.become(now);
            tried.well[heard] = well;
            return isAsTold();
        }
    }
}
