/** Promises 8 and 9: feed and rules. */
public final class RulesTest {
    private static final Due DUE = new Due("RulesTest");

    public static void main(String[] args) {
        feed();
        byteOrder();
        goodTexts();
        edgesOfNumbers();
        faults();
        faultsKeepTheRules();
        tapeOfRules();
        DUE.end();
    }

    private static void feed() {
        MastField x = new MastField();
        DUE.is("8 feed", x.feed(1, 2, 3, 4, 5), 20);
        DUE.is("8 feed", x.feed(1, 2, 3, 4, 5), 40);
        DUE.is("8 feed", x.feed(1, 2, 3, 4, 5), 60);
        DUE.is("8 feed beyond 60", x.feed(1, 2, 3, 4, 5), -1);
        DUE.is("8 count(16)", x.count(16), 60);
    }

    /** The highest byte of each int first, and the ints in their order, over two feeds. */
    private static void byteOrder() {
        MastField x = new MastField();
        String text = "h01;t9;m099;d0;w98;n77;h0032";
        DUE.is("8 a text of two feeds", Due.tell(x, text), 0);
        int[] due = {32, 9, 99, 0, 98, 77};
        for (int i = 0; i < 6; i++) {
            DUE.is("8 count(" + (20 + i) + ")", x.count(20 + i), due[i]);
        }
        MastField y = new MastField();
        DUE.is("8 bytes above 127 are no letters", tellBytes(y, 0x80000000), 100);
        DUE.is("8 a 0 byte is not the end", tellBytes(y, 'h' << 24 | '7' << 16), 502);
    }

    private static int tellBytes(MastField x, int word) {
        x.feed(word, 0, 0, 0, 0);
        return x.rules(4);
    }

    private static void goodTexts() {
        MastField x = new MastField();
        DUE.is("9 h9", Due.tell(x, "h9"), 0);
        DUE.is("9 count(20)", x.count(20), 9);
        DUE.is("9 m5", Due.tell(x, "m5"), 0);
        DUE.is("9 what no clause tells is as at first", x.count(20), 6);
        DUE.is("9 count(22)", x.count(22), 5);
        DUE.is("9 h1;h2;h3", Due.tell(x, "h1;h2;h3"), 0);
        DUE.is("9 the later one counts", x.count(20), 3);
        DUE.is("9 four digits", Due.tell(x, "w0007"), 0);
        DUE.is("9 count(24)", x.count(24), 7);
        StringBuilder whole = new StringBuilder("d1");
        for (int i = 1; i < 19; i++) {
            whole.append(";d").append(i % 10);
        }
        DUE.is("9 sixty bytes", Due.tell(x, whole + ";w0"), 0);
        DUE.is("9 count(23)", x.count(23), 8);
        DUE.is("9 count(24)", x.count(24), 0);
    }

    private static void edgesOfNumbers() {
        String letters = "htmdwn";
        int[] least = {0, 1, 0, 0, 0, 1};
        int[] most = {50, 9, 100, 9, 99, 99};
        for (int i = 0; i < 6; i++) {
            for (int number = 0; number < 130; number++) {
                MastField x = new MastField();
                int before = x.count(20 + i);
                boolean good = number >= least[i] && number <= most[i];
                String text = letters.charAt(i) + "" + number;
                DUE.is("9 " + text, Due.tell(x, text), good ? 0 : 401);
                DUE.is("9 count after " + text, x.count(20 + i), good ? number : before);
            }
        }
    }

    private static void faults() {
        String[] texts = {"", "x1", "H1", ";", "h1;", "h1;;t1", "h", "hh", "h;", "h1;t", "h-1", "h 1", " h1", "h12345",
            "h00001", "h1;m10000", "h51", "h9999", "h1;t0", "h1;t10x", "h1x", "h1 ", "h1:t1", "h1,t1", "h1;n0;x", "t1h",
            "h51;x", "h5;w100", "d10", "n100", "m101", "h1;t1;m1;d1;w1;n1;q1", "h99999", "h/", "h:", "h1/", "h1:"};
        int[] due = {100, 100, 100, 100, 103, 103, 201, 201, 201, 204, 201, 201, 100, 305,
            305, 308, 401, 401, 404, 404, 502, 502, 502, 502, 404, 502,
            401, 404, 401, 401, 401, 118, 305, 201, 201, 502, 502};
        for (int i = 0; i < texts.length; i++) {
            DUE.is("9 fault of '" + texts[i] + "'", Due.tell(new MastField(), texts[i]), due[i]);
        }
    }

    private static void faultsKeepTheRules() {
        MastField x = new MastField();
        DUE.is("9 a good text", Due.tell(x, "h1;t3;m4;d5;w6;n7"), 0);
        DUE.is("9 a bad text", Due.tell(x, "h10;t9;m9;d9;w9;n0"), 417);
        int[] due = {1, 3, 4, 5, 6, 7};
        for (int i = 0; i < 6; i++) {
            DUE.is("9 the rules stay", x.count(20 + i), due[i]);
        }
    }

    private static void tapeOfRules() {
        MastField x = new MastField();
        DUE.is("9 rules(1) of no tape", x.rules(1), -1);
        DUE.is("9 rules(0) of no tape", x.rules(0), 100);
        x.feed('h' << 24 | '8' << 16, 0, 0, 0, 0);
        DUE.is("9 more than it has", x.rules(21), -1);
        DUE.is("9 less than none", x.rules(-1), -1);
        DUE.is("9 the least n", x.rules(Integer.MIN_VALUE), -1);
        DUE.is("9 the tape stays", x.count(16), 20);
        DUE.is("9 the first two bytes", x.rules(2), 0);
        DUE.is("9 the tape is empty then", x.count(16), 0);
        DUE.is("9 count(20)", x.count(20), 8);
        x.feed(0, 0, 0, 0, 0);
        DUE.is("9 a fault", x.rules(20), 100);
        DUE.is("9 the tape is empty then, too", x.count(16), 0);
        x.feed(0, 0, 0, 0, 0);
        DUE.is("9 no byte of it", x.rules(0), 100);
        DUE.is("9 the tape is empty then, too", x.count(16), 0);
    }
}
