import java.util.Arrays;

/** Nets that several tests begin with, and all that can be asked of one. */
final class Worlds {
    private static final int MOST_ANSWERS = 1200;

    private Worlds() {
    }

    /** 10 by 2 cells: in row 0 a caller's cell is its distance from a mast in cell 0. */
    static MastField line(String rules) {
        MastField x = new MastField();
        x.map(10, 2);
        told(x, rules);
        return x;
    }

    /** A line with mast 0 in cell 0 and mast 1 in cell 9, of like power, both far-reaching, each the other's neighbour. */
    static MastField pair(String rules, int places0, int places1) {
        MastField x = line(rules);
        x.mast(0, 100, 10, places0);
        x.mast(9, 100, 10, places1);
        x.neighbour(0, 1, true);
        x.neighbour(1, 0, true);
        return x;
    }

    /** Masts of these powers in cell 0, ten places each: a caller there is at the strongest of them. */
    static MastField heap(String rules, int... powers) {
        MastField x = new MastField();
        told(x, rules);
        for (int power : powers) {
            x.mast(0, power, 10, 10);
        }
        return x;
    }

    static void told(MastField x, String rules) {
        if (Due.tell(x, rules) != 0) {
            throw new IllegalStateException("no rules: " + rules);
        }
    }

    /** A new caller that begins a call in one cell and goes to another. */
    static int inCall(MastField x, int from, int to) {
        int k = x.caller(from);
        if (x.call(k) < 0) {
            throw new IllegalStateException("no call of " + k);
        }
        x.move(k, to);
        return k;
    }

    static void ticks(MastField x, int n) {
        for (int i = 0; i < n; i++) {
            x.tick();
        }
    }

    /** Every answer that a net gives without being changed. */
    static int[] whole(MastField x) {
        int[] answers = new int[MOST_ANSWERS];
        int at = 0;
        for (int what = -1; what <= 130; what++) {
            answers[at++] = x.count(what);
        }
        for (int k = 0; k < 20; k++) {
            for (int what = 0; what < 6; what++) {
                answers[at++] = x.look(k, what);
            }
        }
        for (int m = 0; m < 8; m++) {
            for (int what = 0; what < 8; what++) {
                answers[at++] = x.about(m, what);
            }
            for (int b = 0; b < 8; b++) {
                answers[at++] = x.reports(m, b);
            }
            for (int c = 0; c < 100; c++) {
                answers[at++] = x.field(m, c);
            }
        }
        answers[at++] = x.sleep();
        for (int i = -1; i < 4; i++) {
            answers[at++] = x.best(i);
        }
        return Arrays.copyOf(answers, at);
    }
}
