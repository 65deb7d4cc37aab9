import java.util.Random;

/** Random runs of calls, each answer compared with that of PlainNet; now and then the whole state, too. */
public final class ModelTest {
    private static final int RUNS = 1500;
    private static final int CALLS = 512;
    private static final int[] HAPPENED = new int[18];
    private static final Due DUE = new Due("ModelTest");

    private final Random random;
    private final MastField x = new MastField();
    private final PlainNet y = new PlainNet();
    private final int run;
    private final int wildness;

    private ModelTest(int run) {
        this.run = run;
        random = new Random(run);
        wildness = run % 3 == 0 ? 12 : 60;
    }

    public static void main(String[] args) {
        for (int run = 0; run < RUNS; run++) {
            new ModelTest(run).walk();
        }
        allHappened();
        DUE.end();
    }

    /** Runs in which something never happens would compare nothing: each tally must have moved often. */
    private static void allHappened() {
        for (int what = 6; what <= 17; what++) {
            DUE.yes("often enough: count(" + what + "), " + HAPPENED[what], HAPPENED[what] > 100);
        }
    }

    private void walk() {
        setUp();
        for (int i = 0; i < CALLS; i++) {
            oneCall();
            if (random.nextInt(60) == 0) {
                wholeState();
            }
        }
        wholeState();
        same("sleep", x.sleep(), y.sleep());
        for (int i = -2; i < 6; i++) {
            same("best " + i, x.best(i), y.best(i));
        }
        for (int what = 6; what <= 17; what++) {
            HAPPENED[what] += x.count(what);
        }
    }

    private void setUp() {
        if (run % 2 == 0) {
            int w = 2 + random.nextInt(9);
            int h = 2 + random.nextInt(9);
            same("map", x.map(w, h), y.map(w, h));
        }
        // Now and then as much as there can be, and more.
        boolean full = run % 5 == 0;
        for (int i = full ? 10 : random.nextInt(7); i > 0; i--) {
            mast();
        }
        for (int i = full ? 24 : random.nextInt(12); i > 0; i--) {
            caller();
        }
        for (int i = full ? 60 : 0; i > 0; i--) {
            spot();
        }
        for (int i = random.nextInt(20); i > 0; i--) {
            shade();
        }
        if (random.nextBoolean()) {
            rules();
        }
    }

    /** From least to most; now and then one beyond, or any int at all. */
    private int pick(int least, int most) {
        int wild = random.nextInt(wildness);
        if (wild == 0) {
            return random.nextBoolean() ? least - 1 : most + 1;
        }
        if (wild == 1 && random.nextInt(8) == 0) {
            return random.nextInt();
        }
        return least + random.nextInt(Math.max(1, most - least + 1));
    }

    private int cell() {
        return pick(0, x.count(0) * x.count(1) - 1);
    }

    private int mastNumber() {
        return pick(0, x.count(2) - 1);
    }

    private int callerNumber() {
        return pick(0, x.count(3) - 1);
    }

    private void same(String call, int got, int want) {
        DUE.is("run " + run + ": " + call, got, want);
    }

    private void same(String call, boolean got, boolean want) {
        same(call, got ? 1 : 0, want ? 1 : 0);
    }

    private void mast() {
        int c = cell();
        int power = random.nextBoolean() ? pick(20, 70) : pick(0, 200);
        int reach = pick(0, 10);
        int places = random.nextBoolean() ? pick(0, 3) : pick(0, 20);
        same("mast", x.mast(c, power, reach, places), y.mast(c, power, reach, places));
    }

    private void caller() {
        int c = cell();
        same("caller", x.caller(c), y.caller(c));
    }

    private void spot() {
        int c = cell();
        same("spot", x.spot(c), y.spot(c));
    }

    private void shade() {
        int c = cell();
        int n = pick(0, 20);
        same("shade", x.shade(c, n), y.shade(c, n));
    }

    private void rules() {
        StringBuilder text = new StringBuilder();
        String letters = "htmdwn";
        int[] most = {50, 9, 100, 9, 99, 99};
        int clauses = 1 + random.nextInt(5);
        for (int i = 0; i < clauses; i++) {
            int letter = random.nextInt(6);
            text.append(i == 0 ? "" : ";").append(letters.charAt(letter));
            int number = random.nextInt(Math.min(most[letter], letter == 2 ? 40 : 12) + 1);
            text.append(random.nextInt(8) == 0 ? random.nextInt(20000) : number);
        }
        if (random.nextInt(4) == 0) {
            text.setCharAt(random.nextInt(text.length()), ";h0159x/:".charAt(random.nextInt(9)));
        }
        int[] words = new int[5];
        for (int i = 0; i < 20; i++) {
            words[i / 4] |= (i < text.length() ? text.charAt(i) : random.nextInt(256)) << 24 - i % 4 * 8;
        }
        feed(words);
        int n = random.nextInt(6) == 0 ? pick(0, 60) : Math.min(20, text.length());
        same("rules " + text + " " + n, x.rules(n), y.rules(n));
    }

    private void feed(int[] w) {
        same("feed", x.feed(w[0], w[1], w[2], w[3], w[4]), y.feed(w));
    }

    private void oneCall() {
        int what = random.nextInt(100);
        if (what < 30) {
            same("tick", x.tick(), y.tick());
        } else if (what < 48) {
            int k = callerNumber();
            int c = cell();
            same("move", x.move(k, c), y.move(k, c));
        } else if (what < 60) {
            int k = callerNumber();
            same("call", x.call(k), y.call(k));
        } else if (what < 63) {
            int k = callerNumber();
            same("hang", x.hang(k), y.hang(k));
        } else if (what < 71) {
            int a = mastNumber();
            int b = mastNumber();
            boolean is = random.nextInt(3) > 0;
            same("neighbour", x.neighbour(a, b, is), y.neighbour(a, b, is));
        } else if (what < 75) {
            int m = mastNumber();
            boolean is = random.nextInt(3) > 0;
            same("wake", x.wake(m, is), y.wake(m, is));
        } else {
            rarerCall(what);
        }
    }

    private void rarerCall(int what) {
        int m = mastNumber();
        int c = cell();
        if (what == 75) {
            mast();
        } else if (what == 76) {
            caller();
        } else if (what == 77) {
            shade();
        } else if (what == 78) {
            rules();
        } else if (what == 79) {
            feed(new int[] {random.nextInt(), random.nextInt(), random.nextInt(), random.nextInt(), random.nextInt()});
        } else if (what == 80) {
            int reach = pick(0, 10);
            same("reach", x.reach(m, reach), y.reach(m, reach));
        } else if (what < 83) {
            spot();
        } else if (what == 83 && random.nextInt(12) == 0) {
            int w = pick(2, 10);
            int h = pick(2, 10);
            same("map", x.map(w, h), y.map(w, h));
        } else if (what == 84 && random.nextInt(4) == 0) {
            same("sleep", x.sleep(), y.sleep());
        } else if (what == 85 && random.nextInt(12) == 0) {
            int i = pick(-1, 4);
            same("best " + i, x.best(i), y.best(i));
        } else {
            question(what, m, c);
        }
    }

    private void question(int kind, int m, int c) {
        int k = callerNumber();
        int any = random.nextInt();
        switch (kind % 7) {
            case 0: same("field", x.field(m, c), y.field(m, c)); break;
            case 1: same("covered", x.covered(c), y.covered(c)); break;
            case 2: { int what = pick(0, 7); same("about " + what, x.about(m, what), y.about(m, what)); break; }
            case 3: { int what = pick(0, 5); same("look " + what, x.look(k, what), y.look(k, what)); break; }
            case 4: { int b = mastNumber(); same("reports", x.reports(m, b), y.reports(m, b)); break; }
            case 5: same("loss", x.loss(k, m, c), y.loss(k, m, c)); break;
            default: same("count", x.count(any), y.count(any)); break;
        }
    }

    private void wholeState() {
        for (int what = -2; what < 135; what++) {
            DUE.is(told("count " + what), x.count(what), y.count(what));
        }
        for (int k = -1; k <= x.count(3); k++) {
            for (int what = -1; what < 7; what++) {
                DUE.is(told("look " + k + " " + what), x.look(k, what), y.look(k, what));
            }
        }
        for (int m = -1; m <= x.count(2); m++) {
            for (int what = -1; what < 9; what++) {
                DUE.is(told("about " + m + " " + what), x.about(m, what), y.about(m, what));
            }
            for (int b = -1; b <= x.count(2); b++) {
                DUE.is(told("reports " + m + " " + b), x.reports(m, b), y.reports(m, b));
            }
        }
    }

    private String told(String what) {
        return "run " + run + ", the state: " + what;
    }
}
