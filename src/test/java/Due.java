/** Counts the answers that are not the ones due, and tells them by the promise that they break. */
final class Due {
    private int promise;
    private int looked;
    private int wrong;

    void promise(int number) {
        promise = number;
    }

    void is(String call, long got, long want) {
        looked++;
        if (got != want) {
            wrong++;
            System.out.println("promise " + promise + ": " + call + " answered " + got + ", due is " + want);
        }
    }

    void holds(String what, boolean held) {
        looked++;
        if (!held) {
            wrong++;
            System.out.println("promise " + promise + ": not so: " + what);
        }
    }

    /** Feeds a text and has it read: what wedding() answered. */
    static int read(TearGuests x, String text) {
        for (int i = 0; i < text.length(); i++) {
            x.feed(text.charAt(i));
        }
        return x.wedding();
    }

    /** A new object at the wedding that a text tells. */
    static TearGuests at(String text) {
        TearGuests x = new TearGuests();
        read(x, text);
        return x;
    }

    /** All that can be asked of an object without a change to it, in one text. */
    static String all(TearGuests x) {
        StringBuilder b = new StringBuilder();
        for (int what = 0; what <= 9; what++) {
            b.append(x.count(what)).append(' ');
        }
        for (int g = 0; g < 7; g++) {
            b.append(x.kind(g)).append(' ').append(x.seat(g)).append(' ');
            for (int what = 0; what <= 6; what++) {
                b.append(x.guest(g, what)).append(' ');
            }
        }
        for (int i = 0; i < 17; i++) {
            b.append(x.trace(i)).append(' ');
        }
        return b.append(x.fault()).append(' ').append(x.status()).toString();
    }

    void end() {
        System.out.println(looked + " answers looked at, " + wrong + " wrong");
        if (wrong != 0) {
            System.exit(1);
        }
    }
}
