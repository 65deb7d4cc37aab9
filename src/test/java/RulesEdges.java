import java.util.Arrays;

/** The rules and their faults (Terms), feed and rules (promises 8 and 9). */
final class RulesEdges {
    private static final String LETTERS = "htmdwn";
    private static final int[] LEAST = {0, 1, 0, 0, 0, 1};
    private static final int[] MOST = {50, 9, 100, 9, 99, 99};
    private static final int[] AT_FIRST = {6, 2, 20, 1, 10, 3};

    private final Sentences s;

    RulesEdges(Sentences s) {
        this.s = s;
    }

    void all() {
        clauses();
        digits();
        numbers();
        untold();
        later();
        firstFromTheLeft();
        faultOne();
        faultTwo();
        faultThree();
        faultFour();
        faultFive();
        feed();
        feedCounts();
        feedRefuses();
        rules();
        rulesEmptyTheTape();
        faults();
        faultsChangeNoTick();
        rulesRefuse();
    }

    private void answers(String text, int due) {
        s.is("'" + text + "'", Due.tell(new MastField(), text), due);
    }

    private void rulesAre(MastField x, int... due) {
        for (int i = 0; i < 6; i++) {
            s.is("the number of " + LETTERS.charAt(i), x.count(20 + i), due[i]);
        }
    }

    private static String times(String part, int n) {
        StringBuilder text = new StringBuilder();
        for (int i = 0; i < n; i++) {
            text.append(part);
        }
        return text.toString();
    }

    private void clauses() {
        s.says(0, "THE RULES are a TEXT: CLAUSES with a ; (59) between two, no blanks,");
        answers("h1", 0);
        answers("h1;t1", 0);
        answers("h1" + (char) 59 + "t1", 0);
        answers("h1;;t1", 103);
        answers(";h1", 100);
        answers("h1;", 103);
        answers(" h1", 100);
        answers("h 1", 201);
        answers("h1 ", 502);
        answers("h1 ;t1", 502);
        answers("h1; t1", 103);
        answers(times("h1;", 19) + "h1", 0);
    }

    private void digits() {
        s.says(0, "each a letter and a number of one to four digits:");
        for (String text : new String[] {"h7", "h07", "h007", "h0007"}) {
            MastField x = new MastField();
            s.is("'" + text + "'", Due.tell(x, text), 0);
            s.is("h by '" + text + "'", x.count(20), 7);
        }
        answers("h", 201);
        answers("h00007", 305);
        answers("h0000", 0);
        answers("t0000", 401);
        answers("t0001", 0);
    }

    private void numbers() {
        s.says(0, "h the bar (0 to 50; 6 at first), t TICKS to wait (1 to 9; 2), m the least FIELD (0 to 100; 20),"
            + " d TICKS with two PLACES (0 to 9; 1), w TICKS within which a hand-over back counts (0 to 99; 10),"
            + " n REPORTS by which one is learnt (1 to 99; 3).");
        rulesAre(new MastField(), AT_FIRST);
        for (int i = 0; i < 6; i++) {
            for (int number : new int[] {0, 1, LEAST[i], MOST[i] - 1, MOST[i], MOST[i] + 1, 1000, 9999}) {
                MastField x = new MastField();
                boolean good = number >= LEAST[i] && number <= MOST[i];
                String text = LETTERS.charAt(i) + "" + number;
                s.is("'" + text + "'", Due.tell(x, text), good ? 0 : 401);
                int[] due = AT_FIRST.clone();
                due[i] = good ? number : due[i];
                rulesAre(x, due);
            }
        }
    }

    private void untold() {
        s.says(0, "What no CLAUSE tells is as at first;");
        MastField x = new MastField();
        Worlds.told(x, "h1;t3;m4;d5;w6;n7");
        rulesAre(x, 1, 3, 4, 5, 6, 7);
        for (int i = 0; i < 6; i++) {
            Worlds.told(x, "h1;t3;m4;d5;w6;n7");
            Worlds.told(x, LETTERS.charAt(i) + "8");
            int[] due = AT_FIRST.clone();
            due[i] = 8;
            rulesAre(x, due);
        }
    }

    private void later() {
        s.says(0, "the later one of a letter counts.");
        for (int i = 0; i < 6; i++) {
            char letter = LETTERS.charAt(i);
            MastField x = new MastField();
            s.is("twice " + letter, Due.tell(x, letter + "9;" + letter + "4"), 0);
            s.is("the later one", x.count(20 + i), 4);
            s.is("and another between", Due.tell(x, letter + "3;h5;" + letter + "8"), 0);
            s.is("the later one", x.count(20 + i), 8);
        }
    }

    private void firstFromTheLeft() {
        s.says(0, "FAULTS, the first from the left:");
        answers("h51x", 401);
        answers("h51;x", 401);
        answers("x1;h51", 100);
        answers("h1x;t0", 502);
        answers("h;t0", 201);
        answers("h1;t12345;x", 308);
        answers("t0;t0;t1", 401);
        answers("t1;t0;t1", 404);
        answers("t10 ", 401);
        answers("t10", 401);
    }

    /** Every sign there is, where a letter is due: at the begin and behind a clause. */
    private void faultOne() {
        s.says(0, "1 no such letter there (the end, too);");
        answers("", 100);
        answers("h1;", 103);
        answers(times("h1;", 20), 160);
        for (int sign = 0; sign < 256; sign++) {
            boolean known = LETTERS.indexOf(sign) >= 0;
            answers((char) sign + "1", known ? 0 : 100);
            answers("w99;" + (char) sign + "1", known ? 0 : 104);
        }
    }

    private void faultTwo() {
        s.says(0, "2 no digit there;");
        answers("h", 201);
        answers("h1;t", 204);
        answers("hh1", 201);
        answers(times("h1;", 18) + "w001;h", 260);
        for (int sign = 0; sign < 256; sign++) {
            boolean digit = sign >= '0' && sign <= '9';
            answers("h" + (char) sign, digit ? 0 : 201);
            answers("w99;h" + (char) sign, digit ? 0 : 205);
        }
    }

    private void faultThree() {
        s.says(0, "3 a fifth digit, at it;");
        answers("h0001", 0);
        answers("h00001", 305);
        answers("h00001x", 305);
        answers("h000001", 305);
        answers("h99999", 305);
        answers("h1;t00001", 308);
        answers(times("h1;", 18) + "h00000", 359);
        answers("h0000x", 505);
        answers("h" + times("0", 59), 305);
    }

    private void faultFour() {
        s.says(0, "4 a number that it can't be, at its first digit (asked when its digits end);");
        answers("h51", 401);
        answers("h0051", 401);
        answers("h9999", 401);
        answers("h5100", 401);
        answers("h51000", 305);
        answers("h1;t0", 404);
        answers("h1;t0000", 404);
        answers("h1;t10;", 404);
        answers(times("h1;", 19) + "t0;", 458);
        answers(times("h1;", 18) + "h01;t0", 459);
    }

    private void faultFive() {
        s.says(0, "5 something else than ; or the end behind a CLAUSE.");
        answers("h1h1", 502);
        answers("h1,t1", 502);
        answers("h0001 ", 505);
        answers(times("h1;", 19) + "h1x", 559);
        for (int sign = 0; sign < 256; sign++) {
            boolean digit = sign >= '0' && sign <= '9';
            answers("w1" + (char) sign, digit ? 0 : sign == ';' ? 103 : 502);
            answers("w1" + (char) sign + "t1", digit ? 503 : sign == ';' ? 0 : 502);
        }
    }

    private void feed() {
        s.says(8, "Twenty bytes come behind the tape, the highest of each int first:");
        MastField x = new MastField();
        x.feed(0x68343b74, 0x353b6d36, 0x3b64373b, 0x7738383b, 0x6e39393b);
        s.is("all twenty", x.rules(19), 0);
        rulesAre(x, 4, 5, 6, 7, 88, 99);
        // A fault's place tells where a byte has come to be.
        for (int at = 0; at < 60; at++) {
            MastField y = new MastField();
            int[] words = new int[15];
            StringBuilder text = new StringBuilder(times("h1;", 20));
            text.setCharAt(at, (char) 200);
            for (int i = 0; i < 60; i++) {
                words[i / 4] |= text.charAt(i) << 24 - 8 * (i % 4);
            }
            for (int i = 0; i < 15; i += 5) {
                y.feed(words[i], words[i + 1], words[i + 2], words[i + 3], words[i + 4]);
            }
            int fault = at % 3 == 0 ? 100 : at % 3 == 1 ? 200 : 500;
            s.is("byte " + at, y.rules(60), fault + at);
        }
    }

    private void feedCounts() {
        s.says(8, "how many it has;");
        MastField x = new MastField();
        s.is("none at first", x.count(16), 0);
        for (int n = 20; n <= 60; n += 20) {
            s.is("feed", x.feed(-1, Integer.MIN_VALUE, 0, 1, Integer.MAX_VALUE), n);
            s.is("count(16)", x.count(16), n);
        }
    }

    private void feedRefuses() {
        s.says(8, "NONE if that would be more than 60.");
        MastField x = new MastField();
        x.feed('h' << 24 | '7' << 16 | ';' << 8 | 't', '5' << 24, 0, 0, 0);
        x.feed(0, 0, 0, 0, 0);
        x.feed(0, 0, 0, 0, 0);
        s.is("a fourth", x.feed('h' << 24 | '9' << 16, 0, 0, 0, 0), -1);
        s.is("count(16)", x.count(16), 60);
        s.is("the first bytes stay", x.rules(5), 0);
        s.is("h", x.count(20), 7);
        s.is("t", x.count(21), 5);
        s.is("the tape is empty, there is room", x.feed(0, 0, 0, 0, 0), 20);
    }

    private void rules() {
        s.says(9, "The first n bytes of the tape");
        s.says(9, "are THE RULES from now on: 0;");
        String text = "h0;h1;h2;h3;h4;h5;h6;h7;h8;h9;m0;m1;m2;m3;m4;m5;m6;m7;m8;m9;";
        for (int n = 0; n <= 60; n++) {
            MastField x = new MastField();
            Due.feed(x, text);
            int clauses = n / 3;
            s.is("rules(" + n + ")", x.rules(n), n % 3 == 2 ? 0 : n % 3 == 0 ? 100 + n : 200 + n);
            boolean good = n % 3 == 2;
            s.is("h by rules(" + n + ")", x.count(20), good ? Math.min(clauses, 9) : 6);
            s.is("m by rules(" + n + ")", x.count(22), good && clauses >= 10 ? clauses - 10 : 20);
        }
    }

    private void rulesEmptyTheTape() {
        s.says(9, "(empty then)");
        MastField x = new MastField();
        Due.feed(x, "h5;t5");
        s.is("rules(2) of twenty bytes", x.rules(2), 0);
        s.is("the other eighteen are gone, too", x.count(16), 0);
        s.is("nothing is left to read", x.rules(1), -1);
        Due.feed(x, "h8;t8");
        s.is("what is fed then is first", x.rules(5), 0);
        s.is("h", x.count(20), 8);
        Due.feed(x, "h51");
        s.is("a fault", x.rules(3), 401);
        s.is("empty then, too", x.count(16), 0);
        Due.feed(x, "h5");
        s.is("none of them", x.rules(0), 100);
        s.is("empty then, too", x.count(16), 0);
    }

    private void faults() {
        s.says(9, "a FAULT: 100 times its number and its place (they stay);");
        for (String text : new String[] {"h9;t9;m9;d9;w9;n9;", "h9;t9;m9;d9;w9;n", "h9;t9;m9;d9;w9;n00009",
            "h9;t9;m9;d9;w9;n0", "h9;t9;m9;d9;w9;n9x"}) {
            MastField x = new MastField();
            Worlds.told(x, "h1;t3;m4;d5;w6;n7");
            s.yes("a fault of '" + text + "'", Due.tell(x, text) > 100);
            rulesAre(x, 1, 3, 4, 5, 6, 7);
        }
    }

    /** Of a text with a fault at its end nothing counts, though all its clauses have been read. */
    private void faultsChangeNoTick() {
        s.says(9, "(they stay);");
        String low = "h0;t1;m15;d0;w1;n1";
        String high = "h50;t9;m100;d9;w99;n99";
        String first = "h6;t2;m20;d1;w10;n3";
        String[][] pairs = {{low, high}, {high, low}, {first, low}, {first, high}, {low, first}, {high, first}};
        for (String[] texts : pairs) {
            MastField x = new MastField();
            if (!texts[0].equals(first)) {
                Worlds.told(x, texts[0]);
            }
            s.is("a fault at the end", Due.tell(x, texts[1] + ";"), 100 + texts[1].length() + 1);
            MastField y = new MastField();
            Worlds.told(y, texts[0]);
            sameRun(texts[0] + ", not " + texts[1], x, y);
        }
        s.is("other rules make other runs", run(low)[7] == run(high)[7] || run(low)[7] == run(first)[7] ? 1 : 0, 0);
    }

    private void sameRun(String what, MastField x, MastField y) {
        build(x);
        build(y);
        for (int i = 0; i < 40; i++) {
            step(x, i);
            step(y, i);
            s.yes(what + ", tick " + i, Arrays.equals(Worlds.whole(x), Worlds.whole(y)));
        }
    }

    private static int[] run(String rules) {
        MastField x = new MastField();
        Worlds.told(x, rules);
        build(x);
        for (int i = 0; i < 40; i++) {
            step(x, i);
        }
        int[] tallies = new int[18];
        for (int what = 0; what < 18; what++) {
            tallies[what] = x.count(what);
        }
        return tallies;
    }

    private static void build(MastField x) {
        x.map(10, 2);
        int[] powers = {101, 50, 71, 105};
        for (int m = 0; m < 4; m++) {
            x.mast(3 * m, powers[m], 9, 4);
        }
        x.neighbour(0, 3, true);
        x.neighbour(3, 0, true);
        x.shade(7, 20);
        x.shade(2, 15);
        for (int k = 0; k < 6; k++) {
            x.caller(0);
        }
    }

    private static void step(MastField x, int i) {
        x.move(0, i / 4 % 2 * 9);
        x.call(0);
        x.move(1 + i % 5, i * 7 % 10);
        x.call(1 + i % 5);
        x.wake(1 + i % 2, i % 3 != 0);
        x.tick();
    }

    private void rulesRefuse() {
        s.says(9, "NONE: it has not so many (the tape stays).");
        MastField x = new MastField();
        s.is("one of none", x.rules(1), -1);
        s.is("none of none are there", x.rules(0), 100);
        for (int n = 20; n <= 60; n += 20) {
            x.feed('h' << 24 | '7' << 16, 0, 0, 0, 0);
            s.is("one more than " + n, x.rules(n + 1), -1);
            s.is("less than none", x.rules(-1), -1);
            s.is("the tape stays", x.count(16), n);
        }
        s.is("its bytes, too", x.rules(2), 0);
        s.is("h", x.count(20), 7);
        x.feed('h' << 24 | '8' << 16, 0, 0, 0, 0);
        s.is("all that it has are not too many", x.rules(20), 502);
    }
}
