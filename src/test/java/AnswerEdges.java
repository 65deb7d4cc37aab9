/** What look, about and count answer, and that they answer NONE for others (promises 16, 17 and 24). */
final class AnswerEdges {
    private static final int[] OTHERS = {-1, -2, Integer.MIN_VALUE, Integer.MAX_VALUE};
    private final Sentences s;

    AnswerEdges(Sentences s) {
        this.s = s;
    }

    void all() {
        look();
        lookIdle();
        lookCause();
        lookOthers();
        about();
        aboutCells();
        aboutOthers();
        count();
        countDropped();
        countRules();
        countShades();
        countOthers();
    }

    private void look() {
        s.says(16, "Of CALLER k, what 0 its CELL, 1 its MAST (NONE: idle), 2 the MAST of the old PLACE that it holds"
            + " (NONE), 3 WAIT, 4 hand-overs of this CALL (idle: 0),");
        MastField x = Worlds.pair("t2;d9", 2, 2);
        Worlds.inCall(x, 0, 9);
        Worlds.ticks(x, 3);
        x.move(0, 0);
        x.tick();
        int[] due = {0, 1, 0, 1, 1, 0};
        for (int what = 0; what < 6; what++) {
            s.is("look(0, " + what + ")", x.look(0, what), due[what]);
        }
        x.tick();
        int[] later = {0, 0, 0, 0, 2, 0};
        for (int what = 0; what < 6; what++) {
            s.is("a tick later, look(0, " + what + ")", x.look(0, what), later[what]);
        }
    }

    private void lookIdle() {
        s.says(16, "4 hand-overs of this CALL (idle: 0),");
        for (int end = 0; end < 3; end++) {
            MastField x = Worlds.pair("t1;d9", 1, 1);
            x.caller(3);
            if (end > 0) {
                x.call(0);
                x.move(0, 9);
                x.tick();
                s.is("one hand-over", x.look(0, 4), 1);
                x.hang(end == 1 ? 0 : -1);
                x.wake(1, false);
                x.tick();
            }
            int[] due = {end == 0 ? 3 : 9, -1, -1, 0, 0, end == 2 ? 4 : 0};
            for (int what = 0; what < 6; what++) {
                s.is("idle by way " + end + ", look(0, " + what + ")", x.look(0, what), due[what]);
            }
            x.wake(1, true);
            x.call(0);
            s.is("of another call", x.look(0, 4), 0);
        }
    }

    private void lookCause() {
        s.says(16, "5 the CAUSE by which its latest CALL was DROPPED (0: it was not).");
        MastField x = Worlds.heap("m20", 50);
        x.caller(0);
        s.is("no call yet", x.look(0, 5), 0);
        x.call(0);
        x.wake(0, false);
        s.is("not yet", x.look(0, 5), 0);
        x.tick();
        s.is("dropped", x.look(0, 5), 1);
        x.tick();
        s.is("a tick later", x.look(0, 5), 1);
        s.is("a call that is blocked", x.call(0), -2);
        s.is("is none", x.look(0, 5), 1);
        x.wake(0, true);
        s.is("another call", x.call(0), 0);
        s.is("it was not", x.look(0, 5), 0);
        x.hang(0);
        s.is("nor when it hung up", x.look(0, 5), 0);
    }

    private void lookOthers() {
        s.says(16, "NONE for others.");
        MastField x = Worlds.heap("m20", 50);
        s.is("no caller", x.look(0, 0), -1);
        Worlds.inCall(x, 0, 0);
        s.is("what 6", x.look(0, 6), -1);
        s.is("caller 1", x.look(1, 0), -1);
        s.is("caller 20", x.look(20, 0), -1);
        for (int other : OTHERS) {
            s.is("what " + other, x.look(0, other), -1);
            s.is("caller " + other, x.look(other, 0), -1);
        }
    }

    private void about() {
        s.says(17, "Of MAST m, what 0 CELL, 1 POWER, 2 REACH, 3 PLACES, 4 those that are taken, 5 whether it is AWAKE,"
            + " 6 NEIGHBOURS (bits),");
        MastField x = new MastField();
        for (int m = 0; m < 7; m++) {
            x.mast(0, 0, 0, 0);
        }
        x.mast(63, 77, 6, 5);
        x.neighbour(7, 0, true);
        x.neighbour(7, 6, true);
        x.caller(63);
        x.call(0);
        int[] due = {63, 77, 6, 5, 1, 1, 65};
        for (int what = 0; what < 7; what++) {
            s.is("about(7, " + what + ")", x.about(7, what), due[what]);
        }
        x.neighbour(0, 7, true);
        s.is("the eighth as a bit", x.about(0, 6), 128);
        x.wake(7, false);
        int[] asleep = {63, 77, 6, 5, 1, 0, 65};
        for (int what = 0; what < 7; what++) {
            s.is("asleep, about(7, " + what + ")", x.about(7, what), asleep[what]);
        }
    }

    private void aboutCells() {
        s.says(17, "7 CELLS in which its FIELD is m or more.");
        MastField x = Worlds.heap("m20", 19, 20, 41, 200);
        int[] due = {0, 1, 64, 64};
        for (int m = 0; m < 4; m++) {
            s.is("about(" + m + ", 7)", x.about(m, 7), due[m]);
        }
        x.shade(63, 1);
        s.is("one less by a shade", x.about(2, 7), 63);
        Worlds.told(x, "m100");
        s.is("by another m", x.about(2, 7), 0);
        x.wake(3, false);
        s.is("asleep", x.about(3, 7), 0);
        Worlds.told(x, "m0");
        s.is("asleep, m 0", x.about(3, 7), 0);
    }

    private void aboutOthers() {
        s.says(17, "NONE for others.");
        MastField x = new MastField();
        s.is("no mast", x.about(0, 0), -1);
        x.mast(5, 50, 5, 5);
        s.is("what 8", x.about(0, 8), -1);
        s.is("mast 1", x.about(1, 0), -1);
        s.is("mast 8", x.about(8, 0), -1);
        for (int other : OTHERS) {
            s.is("what " + other, x.about(0, other), -1);
            s.is("mast " + other, x.about(other, 0), -1);
        }
    }

    /** As many different numbers as can be, so that none stands for another. */
    private void count() {
        s.says(24, "0 W, 1 H, 2 MASTS, 3 CALLERS, 4 those in a CALL, 5 the TICK (0: none yet), 6 BLOCKED, 7 HANDED OVER,"
            + " 8 BACK, 9 HELD UP,");
        s.says(24, "14 SPOTS, 15 COVERED CELLS, 16 bytes of the tape, 17 learnt;");
        MastField x = Worlds.pair("t1;d0;n1;h0", 1, 1);
        s.is("none yet", x.count(5), 0);
        Worlds.inCall(x, 0, 9);
        for (int i = 1; i <= 6; i++) {
            x.move(0, i % 2 == 1 ? 9 : 0);
            x.tick();
        }
        Worlds.inCall(x, 9, 0);
        for (int k = 2; k < 14; k++) {
            x.caller(5);
            s.is("blocked", x.call(k), -2);
        }
        x.move(0, 9);
        Worlds.ticks(x, 3);
        x.neighbour(1, 0, false);
        Worlds.ticks(x, 2);
        for (int c = 0; c < 8; c++) {
            x.spot(c);
        }
        x.mast(0, 0, 0, 0);
        x.feed(0, 0, 0, 0, 0);
        x.feed(0, 0, 0, 0, 0);
        int[] due = {10, 2, 3, 14, 2, 11, 12, 6, 5, 9, 0, 0, 0, 0, 8, 20, 40, 1};
        for (int what = 0; what < due.length; what++) {
            s.is("count(" + what + ")", x.count(what), due[what]);
        }
        x.hang(0);
        s.is("those in a call", x.count(4), 1);
        x.rules(0);
        s.is("bytes of the tape", x.count(16), 0);
        x.neighbour(1, 0, false);
        s.is("learnt, though untold since", x.count(17), 1);
        x.wake(0, false);
        x.wake(1, false);
        s.is("covered cells", x.count(15), 0);
    }

    private void countDropped() {
        s.says(24, "10 to 13 DROPPED by CAUSE 1 to 4,");
        MastField x = Worlds.line("m20");
        x.mast(0, 50, 0, 10);
        for (int k = 0; k < 10; k++) {
            Worlds.inCall(x, 0, k == 0 ? 9 : 0);
        }
        x.tick();
        x.mast(9, 20, 0, 0);
        x.move(1, 9);
        x.move(2, 9);
        x.tick();
        x.mast(9, 20, 0, 1);
        for (int k = 3; k < 6; k++) {
            x.move(k, 9);
        }
        x.tick();
        x.neighbour(0, 2, true);
        for (int k = 6; k < 10; k++) {
            x.move(k, 9);
        }
        x.tick();
        for (int cause = 1; cause <= 4; cause++) {
            s.is("count(" + (9 + cause) + ")", x.count(9 + cause), cause);
        }
    }

    private void countRules() {
        s.says(24, "20 to 25 THE RULES' h, t, m, d, w, n;");
        MastField x = new MastField();
        int[] first = {6, 2, 20, 1, 10, 3};
        for (int i = 0; i < 6; i++) {
            s.is("at first, count(" + (20 + i) + ")", x.count(20 + i), first[i]);
        }
        Worlds.told(x, "n99;w98;d8;m100;t9;h50");
        int[] told = {50, 9, 100, 8, 98, 99};
        for (int i = 0; i < 6; i++) {
            s.is("told, count(" + (20 + i) + ")", x.count(20 + i), told[i]);
        }
    }

    private void countShades() {
        s.says(24, "30 + c the SHADE of CELL c.");
        MastField x = new MastField();
        x.map(10, 10);
        for (int c = 0; c < 100; c++) {
            x.shade(c, c % 21);
        }
        for (int c = 0; c < 100; c++) {
            s.is("count(" + (30 + c) + ")", x.count(30 + c), c % 21);
        }
    }

    private void countOthers() {
        s.says(24, "NONE for others.");
        for (int side = 2; side <= 10; side++) {
            MastField x = new MastField();
            x.map(side, 2);
            s.is("the last cell", x.count(29 + 2 * side), 0);
            s.is("behind the last cell", x.count(30 + 2 * side), -1);
            s.is("the last that could be", x.count(129), -1);
            for (int what : new int[] {18, 19, 26, 27, 28, 29, 130, 1000}) {
                s.is("count(" + what + ")", x.count(what), -1);
            }
            for (int other : OTHERS) {
                s.is("count(" + other + ")", x.count(other), -1);
            }
        }
        MastField x = new MastField();
        x.map(10, 10);
        s.is("cell 99", x.count(129), 0);
        s.is("no cell 100", x.count(130), -1);
        s.is("a number that wraps around", x.count(Integer.MIN_VALUE + 30), -1);
    }
}
