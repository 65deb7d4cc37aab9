/** Compares answers with those that are due, and ends a test with exit code 1 if one was wrong. */
final class Due {
    private static final int MOST_SHOWN = 40;
    private final String test;
    private int asked;
    private int wrong;

    Due(String test) {
        this.test = test;
    }

    void is(String what, long got, long want) {
        asked++;
        if (got != want) {
            wrong(what + " answered " + got + ", due is " + want);
        }
    }

    void yes(String what, boolean got) {
        is(what, got ? 1 : 0, 1);
    }

    void no(String what, boolean got) {
        is(what, got ? 1 : 0, 0);
    }

    void wrong(String text) {
        wrong++;
        if (wrong <= MOST_SHOWN) {
            System.out.println(test + ": " + text);
        }
    }

    void end() {
        System.out.println(test + ": " + asked + " answers, " + wrong + " wrong");
        if (wrong != 0) {
            System.exit(1);
        }
    }

    /** Feeds a text (60 bytes at most) and makes its bytes the rules. */
    static int tell(MastField x, String text) {
        feed(x, text);
        return x.rules(text.length());
    }

    /** Feeds a text, with bytes of 0 behind it up to the next twenty. */
    static void feed(MastField x, String text) {
        for (int at = 0; at == 0 || at < text.length(); at += 20) {
            x.feed(word(text, at), word(text, at + 4), word(text, at + 8), word(text, at + 12), word(text, at + 16));
        }
    }

    private static int word(String text, int at) {
        int word = 0;
        for (int i = at; i < at + 4; i++) {
            word = word << 8 | (i < text.length() ? text.charAt(i) & 255 : 0);
        }
        return word;
    }
}
