/** Neighbours, callers and calls (Terms), and promises 10 to 14. */
final class CallEdges {
    private final Sentences s;

    CallEdges(Sentences s) {
        this.s = s;
    }

    void all() {
        neighboursAreOthers();
        toldOrLearnt();
        callerNumbers();
        strongest();
        leastField();
        freePlace();
        blocked();
        hangFrees();
        keepsItsCalls();
        neighbour();
        neighbourRefuses();
        caller();
        callerRefuses();
        move();
        moveRefuses();
        call();
        callBlocked();
        callRefuses();
        hang();
        hangRefuses();
    }

    private void neighboursAreOthers() {
        s.says(0, "NEIGHBOURS of a MAST are other MASTS,");
        MastField x = Worlds.heap("h0;n1;t1", 50);
        s.no("told of itself", x.neighbour(0, 0, true));
        Worlds.inCall(x, 0, 0);
        Worlds.ticks(x, 3);
        s.is("its own field is not below itself and 0, but it is not learnt", x.about(0, 6), 0);
        s.is("nor is it a target", x.count(7), 0);
        x.mast(0, 0, 0, 0);
        s.no("nor are two of which one is not there", x.neighbour(0, 2, true));
        s.yes("but another is", x.neighbour(0, 1, true));
    }

    private void toldOrLearnt() {
        s.says(0, "as told or learnt.");
        MastField x = Worlds.heap("n1;h0;t9", 50, 0);
        x.mast(0, 50, 10, 0);
        x.neighbour(0, 1, true);
        Worlds.inCall(x, 0, 0);
        s.is("told", x.about(0, 6), 2);
        x.tick();
        s.is("told and learnt", x.about(0, 6), 6);
        s.yes("a learnt one can be untold", x.neighbour(0, 2, false));
        s.is("told", x.about(0, 6), 2);
        x.tick();
        s.is("and learnt again", x.about(0, 6), 6);
        s.is("which counts again", x.count(17), 2);
    }

    private void callerNumbers() {
        s.says(0, "CALLERS 0 to 19, each in a CELL, idle or in a CALL of a MAST.");
        MastField x = new MastField();
        for (int k = 0; k < 20; k++) {
            s.is("the next caller", x.caller(63), k);
            s.is("its cell", x.look(k, 0), 63);
            s.is("idle", x.look(k, 1), -1);
        }
        s.is("one more", x.caller(63), -1);
        s.is("look(20, 0)", x.look(20, 0), -1);
        x.mast(63, 200, 10, 20);
        for (int k = 0; k < 20; k++) {
            s.is("twenty calls of one mast", x.call(k), 0);
            s.is("in a call", x.look(k, 1), 0);
        }
        s.is("places that are taken", x.about(0, 4), 20);
    }

    private void strongest() {
        s.says(0, "A CALL begins at the MAST of the greatest FIELD there,");
        s.says(0, "(of like ones the lowest);");
        MastField x = Worlds.heap("m20", 60, 61, 61, 59);
        x.caller(7);
        s.is("the greatest, of like ones the lowest", x.call(0), 1);
        x.hang(0);
        x.wake(1, false);
        s.is("the other of like ones", x.call(0), 2);
        x.hang(0);
        x.wake(2, false);
        s.is("the next", x.call(0), 0);
        MastField y = Worlds.line("m20");
        y.mast(0, 100, 10, 9);
        y.mast(9, 101, 10, 9);
        for (int c = 0; c < 10; c++) {
            y.caller(c);
            s.is("there, in cell " + c, y.call(c), c <= 4 ? 0 : 1);
        }
        MastField z = Worlds.line("m20");
        z.mast(0, 100, 0, 5);
        z.mast(0, 70, 10, 1);
        z.caller(9);
        s.is("100, 27 and 36 less, against 70, 27 less", z.call(0), 1);
    }

    private void leastField() {
        s.says(0, "of those whose FIELD is m or more");
        for (int m : new int[] {0, 1, 20, 99, 100}) {
            for (int power = Math.max(0, m - 1); power <= m + 1; power++) {
                MastField x = Worlds.heap("m" + m, power);
                x.caller(0);
                s.is("m " + m + ", a field of " + power, x.call(0), power >= m ? 0 : -2);
            }
        }
        MastField x = Worlds.heap("m0", 3);
        x.caller(1);
        x.caller(2);
        s.is("a field of 0", x.call(0), 0);
        s.is("a field of -3", x.call(1), -2);
    }

    private void freePlace() {
        s.says(0, "and that have a free PLACE");
        MastField x = Worlds.line("m20");
        x.mast(0, 100, 10, 0);
        x.mast(0, 99, 10, 1);
        x.mast(0, 98, 10, 2);
        int[] due = {1, 2, 2, -2};
        for (int k = 0; k < 4; k++) {
            x.caller(0);
            s.is("call(" + k + ")", x.call(k), due[k]);
        }
        x.hang(0);
        s.is("a place that is free again", x.call(3), 1);
    }

    private void blocked() {
        s.says(0, "if there is none it is BLOCKED.");
        MastField x = new MastField();
        x.caller(0);
        s.is("no mast", x.call(0), -2);
        x.mast(0, 19, 10, 1);
        s.is("none of m", x.call(0), -2);
        x.mast(0, 20, 10, 0);
        s.is("none with a place", x.call(0), -2);
        x.mast(0, 20, 10, 1);
        x.wake(2, false);
        s.is("none awake", x.call(0), -2);
        s.is("blocked", x.count(6), 4);
        s.is("idle", x.look(0, 1), -1);
        x.wake(2, true);
        s.is("one", x.call(0), 2);
        s.is("blocked", x.count(6), 4);
    }

    private void hangFrees() {
        s.says(0, "One who hangs up frees all PLACES.");
        MastField x = Worlds.pair("t1;d9", 1, 1);
        int k = Worlds.inCall(x, 0, 9);
        x.tick();
        s.is("the old one", x.about(0, 4), 1);
        s.is("the new one", x.about(1, 4), 1);
        x.hang(k);
        s.is("the old one", x.about(0, 4), 0);
        s.is("the new one", x.about(1, 4), 0);
        Worlds.ticks(x, 12);
        s.is("none is freed twice", x.about(0, 4), 0);
        MastField y = Worlds.pair("t1;d9", 2, 2);
        Worlds.inCall(y, 0, 9);
        y.tick();
        y.move(0, 0);
        y.tick();
        s.is("two of one mast", y.about(0, 4), 2);
        y.hang(0);
        s.is("both", y.about(0, 4), 0);
    }

    private void keepsItsCalls() {
        s.says(0, "A MAST that falls asleep keeps its CALLS till the next TICK.");
        MastField x = Worlds.heap("m0", 50);
        Worlds.inCall(x, 0, 0);
        Worlds.inCall(x, 0, 0);
        x.wake(0, false);
        s.is("places that are taken", x.about(0, 4), 2);
        s.is("its mast", x.look(0, 1), 0);
        s.is("those in a call", x.count(4), 2);
        s.yes("one can hang up", x.hang(1));
        x.wake(0, true);
        x.tick();
        s.is("awake again ahead of the tick", x.look(0, 1), 0);
        x.wake(0, false);
        x.tick();
        s.is("asleep in the tick", x.look(0, 1), -1);
        s.is("places that are taken", x.about(0, 4), 0);
    }

    private void neighbour() {
        s.says(10, "MAST b is a NEIGHBOUR of MAST a (is), or not any more: true");
        MastField x = new MastField();
        for (int m = 0; m < 8; m++) {
            x.mast(0, 1, 1, 1);
        }
        for (int a = 0; a < 8; a++) {
            for (int b = 0; b < 8; b++) {
                s.is("neighbour(" + a + ", " + b + ", true)", x.neighbour(a, b, true) ? 1 : 0, a == b ? 0 : 1);
            }
            s.is("about(" + a + ", 6)", x.about(a, 6), 255 - (1 << a));
        }
        s.yes("not any more", x.neighbour(7, 0, false));
        s.is("of 7", x.about(7, 6), 126);
        s.is("the other way it stays", x.about(0, 6), 254);
        x.wake(0, false);
        s.yes("one asleep", x.neighbour(7, 0, true));
    }

    private void neighbourRefuses() {
        s.says(10, "false: no such two, it is so.");
        MastField x = Worlds.heap("m20", 1, 1);
        for (boolean is : new boolean[] {true, false}) {
            s.no("mast -1", x.neighbour(-1, 0, is));
            s.no("mast 2", x.neighbour(2, 0, is));
            s.no("of -1", x.neighbour(0, -1, is));
            s.no("of 2", x.neighbour(0, 2, is));
            s.no("of 33, which a shift takes for 1", x.neighbour(0, 33, is));
            s.no("itself", x.neighbour(1, 1, is));
        }
        s.no("it is none", x.neighbour(0, 1, false));
        s.yes("told", x.neighbour(0, 1, true));
        s.no("it is one", x.neighbour(0, 1, true));
        s.is("about(0, 6)", x.about(0, 6), 2);
    }

    private void caller() {
        s.says(11, "A CALLER in a CELL, idle: its number");
        MastField x = Worlds.heap("m20", 200);
        s.is("in the first cell", x.caller(0), 0);
        s.is("in the last cell", x.caller(63), 1);
        int[] due = {63, -1, -1, 0, 0, 0};
        for (int what = 0; what < 6; what++) {
            s.is("look(1, " + what + ")", x.look(1, what), due[what]);
        }
        s.is("no place is taken", x.about(0, 4), 0);
    }

    private void callerRefuses() {
        s.says(11, "NONE: no such CELL, 20 are there.");
        MastField x = new MastField();
        s.is("cell -1", x.caller(-1), -1);
        s.is("cell 64", x.caller(64), -1);
        for (int k = 0; k < 20; k++) {
            s.is("a refused one takes no number", x.caller(k), k);
        }
        s.is("20 are there", x.caller(0), -1);
        s.is("count(3)", x.count(3), 20);
    }

    private void move() {
        s.says(12, "CALLER k goes to a CELL: true");
        MastField x = Worlds.heap("m20", 50);
        Worlds.inCall(x, 0, 0);
        x.caller(5);
        s.yes("to the last cell", x.move(0, 63));
        s.is("its cell", x.look(0, 0), 63);
        s.is("the other's", x.look(1, 0), 5);
        s.yes("to where it is", x.move(0, 63));
        s.is("in a call still", x.look(0, 1), 0);
        s.yes("an idle one", x.move(1, 0));
        s.is("its cell", x.look(1, 0), 0);
    }

    private void moveRefuses() {
        s.says(12, "false: no such ones.");
        MastField x = new MastField();
        x.caller(5);
        s.no("caller 1", x.move(1, 0));
        s.no("caller -1", x.move(-1, 0));
        s.no("cell 64", x.move(0, 64));
        s.no("cell -1", x.move(0, -1));
        s.is("its cell", x.look(0, 0), 5);
    }

    private void call() {
        s.says(13, "CALLER k begins a CALL: the MAST;");
        MastField x = Worlds.heap("m20", 50, 60);
        x.caller(0);
        s.is("call(0)", x.call(0), 1);
        int[] due = {0, 1, -1, 0, 0, 0};
        for (int what = 0; what < 6; what++) {
            s.is("look(0, " + what + ")", x.look(0, what), due[what]);
        }
        s.is("a place of it is taken", x.about(1, 4), 1);
        s.is("those in a call", x.count(4), 1);
    }

    private void callBlocked() {
        s.says(13, "-2: BLOCKED;");
        MastField x = Worlds.heap("m20", 19);
        x.caller(0);
        s.is("call(0)", x.call(0), -2);
        s.is("once more", x.call(0), -2);
        s.is("count(6)", x.count(6), 2);
        s.is("those in a call", x.count(4), 0);
        s.is("its mast", x.look(0, 1), -1);
    }

    private void callRefuses() {
        s.says(13, "NONE: no such one, it is in a CALL.");
        MastField x = Worlds.heap("m20", 50);
        s.is("caller 0", x.call(0), -1);
        Worlds.inCall(x, 0, 0);
        s.is("caller 1", x.call(1), -1);
        s.is("caller -1", x.call(-1), -1);
        s.is("in a call", x.call(0), -1);
        x.move(0, 63);
        Worlds.told(x, "m100");
        s.is("in a call, where none could take it", x.call(0), -1);
        s.is("which is not blocked", x.count(6), 0);
        s.is("places that are taken", x.about(0, 4), 1);
    }

    private void hang() {
        s.says(14, "CALLER k hangs up: true");
        MastField x = Worlds.heap("m20", 50);
        Worlds.inCall(x, 0, 0);
        Worlds.inCall(x, 0, 0);
        s.yes("hang(0)", x.hang(0));
        s.is("idle", x.look(0, 1), -1);
        s.is("the other is not", x.look(1, 1), 0);
        s.is("places that are taken", x.about(0, 4), 1);
        s.is("it can call again", x.call(0), 0);
        x.move(0, 63);
        Worlds.told(x, "m100");
        s.yes("without a field, too", x.hang(0));
        s.is("not dropped", x.look(0, 5), 0);
    }

    private void hangRefuses() {
        s.says(14, "false: no such one, idle.");
        MastField x = Worlds.heap("m20", 50);
        s.no("caller 0", x.hang(0));
        x.caller(0);
        s.no("idle", x.hang(0));
        s.no("caller 1", x.hang(1));
        s.no("caller -1", x.hang(-1));
        x.call(0);
        x.hang(0);
        s.no("hung up", x.hang(0));
        x.call(0);
        x.wake(0, false);
        x.tick();
        s.no("dropped", x.hang(0));
        s.is("places that are taken", x.about(0, 4), 0);
    }
}
