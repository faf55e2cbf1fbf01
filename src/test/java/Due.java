/** Counts the answers that are not the ones due, and tells them by the promise and the sentence that they break. */
final class Due {
    /** Numbers that are far from all that the document tells. */
    static final int[] FAR = {Integer.MIN_VALUE, Integer.MIN_VALUE + 1, -1000000, -2, 1 << 30, Integer.MAX_VALUE};

    /** A call whose answer is due; an object is made for each, so that none is used for more than 512 calls. */
    interface Call {
        int on(TearGuests x);
    }

    private int promise;
    private String sentence = "";
    private int looked;
    private int wrong;

    void promise(int number) {
        sentence(number, "");
    }

    /** The promise, and the words of the document that what follows holds to. */
    void sentence(int number, String words) {
        promise = number;
        sentence = words.isEmpty() ? "" : " \"" + words + "\"";
    }

    void is(String call, long got, long want) {
        looked++;
        if (got != want) {
            wrong++;
            System.out.println("promise " + promise + sentence + ": " + call + " answered " + got + ", due is " + want);
        }
    }

    void holds(String what, boolean held) {
        looked++;
        if (!held) {
            wrong++;
            System.out.println("promise " + promise + sentence + ": not so: " + what);
        }
    }

    /** Feeds a text and has it read: what wedding() answered. */
    static int read(TearGuests x, String text) {
        for (int i = 0; i < text.length(); i++) {
            x.feed(text.charAt(i));
        }
        return x.wedding();
    }

    /** A new object at the wedding that a text tells. */
    static TearGuests at(String text) {
        TearGuests x = new TearGuests();
        read(x, text);
        return x;
    }

    /** An ITEM from 0 to 9, if guest 0 is an aunt, HIRED, with START 9: the least WELL by which she sheds just that. */
    static int item(TearGuests x, int row, int i) {
        return x.fits(0, row, i, 1, 4);
    }

    /** All that can be asked of an object without a change to it, in one text; what was found comes last. */
    static String all(TearGuests x) {
        StringBuilder b = new StringBuilder();
        for (int what = 0; what <= 9; what++) {
            b.append(x.count(what)).append(' ');
        }
        for (int g = 0; g < 7; g++) {
            b.append(x.kind(g)).append(' ').append(x.seat(g)).append(' ');
            for (int what = 0; what <= 6; what++) {
                b.append(x.guest(g, what)).append(' ');
            }
        }
        for (int i = 0; i < 17; i++) {
            b.append(x.trace(i)).append(' ');
        }
        return b.append(x.fault()).append(' ').append(x.status()).toString();
    }

    void end() {
        System.out.println(looked + " answers looked at, " + wrong + " wrong");
        if (wrong != 0) {
            System.exit(1);
        }
    }
}
