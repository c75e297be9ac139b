/** Counts answers that are not as due, and ends a test with exit code 1 if there was one. */
final class Due {
    private int asked = 0;
    private int wrong = 0;

    void is(String what, long got, long want) {
        asked++;
        if (got != want) {
            wrong++;
            if (wrong <= 100) {
                System.out.println(what + " answered " + got + ", due is " + want);
            }
        }
    }

    boolean allRight() {
        return wrong == 0;
    }

    void close(String name) {
        System.out.println(name + ": " + asked + " answers, " + wrong + " not as due");
        if (wrong != 0 || asked == 0) {
            System.exit(1);
        }
    }

    /** Puts a text on the tape, twenty bytes a feed, and cuts what is beyond it. */
    static void type(SlackRace x, String text) {
        int has = x.count(5);
        for (int from = 0; from < text.length(); from += 20) {
            int[] n = new int[5];
            for (int i = 0; i < 20; i++) {
                int b = from + i < text.length() ? text.charAt(from + i) & 255 : 0;
                n[i / 4] |= b << (24 - 8 * (i % 4));
            }
            x.feed(n[0], n[1], n[2], n[3], n[4]);
        }
        x.end(has + text.length());
    }

    static int makeLaw(SlackRace x, String text) {
        type(x, text);
        return x.law();
    }

    /** Makes a law and puts it in force. */
    static void rule(SlackRace x, String text) {
        x.force(makeLaw(x, text));
    }

    static void row(SlackRace x, int... kinds) {
        StringBuilder text = new StringBuilder();
        for (int kind : kinds) {
            text.append((char) kind);
        }
        type(x, text.toString());
        x.row();
    }
}
