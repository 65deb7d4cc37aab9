import java.util.Arrays;

/** The map, cells, shades and masts (Terms), a new object, map, shade, mast, reach and wake (promises 1 to 6). */
final class MapEdges {
    private final Sentences s;

    MapEdges(Sentences s) {
        this.s = s;
    }

    void all() {
        sides();
        cellNumbers();
        shades();
        mastNumbers();
        mastEdges();
        awakeAtFirst();
        ownMemory();
        constants();
        newObject();
        mapAnew();
        mapKeepsRulesAndTape();
        mapRefuses();
        shade();
        shadeRefuses();
        mast();
        mastRefuses();
        reach();
        reachRefuses();
        wake();
        wakeRefuses();
    }

    private void sides() {
        s.says(0, "A MAP of W columns and H rows (2 to 10 each; 8 and 8 at first)");
        MastField x = new MastField();
        s.is("W at first", x.count(0), 8);
        s.is("H at first", x.count(1), 8);
        for (int side = 0; side <= 12; side++) {
            boolean good = side >= 2 && side <= 10;
            s.is("map(" + side + ", 7)", x.map(side, 7) ? 1 : 0, good ? 1 : 0);
            s.is("map(7, " + side + ")", x.map(7, side) ? 1 : 0, good ? 1 : 0);
        }
        x.map(2, 10);
        s.is("W of 2 by 10", x.count(0), 2);
        s.is("H of 2 by 10", x.count(1), 10);
    }

    private void cellNumbers() {
        s.says(0, "CELLS by numbers: W times the row and the column");
        MastField x = new MastField();
        x.map(3, 5);
        x.mast(7, 100, 10, 1);
        int[] steps = {2, 2, 2, 1, 1, 1, 1, 0, 1, 1, 1, 1, 2, 2, 2};
        for (int c = 0; c < 15; c++) {
            s.is("3 by 5, from column 1, row 2 to cell " + c, x.field(0, c), 100 - 3 * steps[c]);
        }
        s.is("behind the last cell", x.field(0, 15), -1000);
        x.map(10, 2);
        x.mast(9, 100, 10, 1);
        s.is("10 by 2, from the end of row 0 to the begin of row 1", x.field(0, 10), 73);
        s.is("10 by 2, from the end of row 0 to that of row 1", x.field(0, 19), 97);
        x.map(2, 2);
        s.is("2 by 2, the last cell", x.covered(3), 0);
        s.is("2 by 2, behind it", x.covered(4), -1);
        x.map(10, 10);
        s.is("10 by 10, the last cell", x.covered(99), 0);
        s.is("10 by 10, behind it", x.covered(100), -1);
    }

    private void shades() {
        s.says(0, "each of a SHADE (0 to 20; 0 at first)");
        MastField x = new MastField();
        for (int c = 0; c < 64; c++) {
            s.is("at first, cell " + c, x.count(30 + c), 0);
        }
        for (int n = -2; n <= 22; n++) {
            s.is("shade(9, " + n + ")", x.shade(9, n) ? 1 : 0, n >= 0 && n <= 20 ? 1 : 0);
            s.is("the shade then", x.count(39), Math.max(0, Math.min(20, n)));
        }
    }

    private void mastNumbers() {
        s.says(0, "MASTS 0 to 7, each in a CELL");
        MastField x = new MastField();
        for (int m = 0; m < 8; m++) {
            s.is("the next mast", x.mast(63, 10, 1, 1), m);
            s.is("its cell", x.about(m, 0), 63);
        }
        s.is("one more", x.mast(63, 10, 1, 1), -1);
        s.is("about(8, 0)", x.about(8, 0), -1);
        s.is("about(-1, 0)", x.about(-1, 0), -1);
    }

    private void mastEdges() {
        s.says(0, "of a POWER (0 to 200), a REACH (0 to 10), PLACES (0 to 20)");
        int[] most = {200, 10, 20};
        for (int i = 0; i < 3; i++) {
            for (int n : new int[] {-1, 0, most[i], most[i] + 1}) {
                MastField x = new MastField();
                int[] with = {50, 5, 5};
                with[i] = n;
                boolean good = n >= 0 && n <= most[i];
                s.is("number " + i + " is " + n, x.mast(0, with[0], with[1], with[2]), good ? 0 : -1);
                s.is("about it", x.about(0, 1 + i), good ? n : -1);
            }
        }
    }

    private void awakeAtFirst() {
        s.says(0, "AWAKE at first, or asleep.");
        MastField x = Worlds.heap("m20", 30);
        s.is("at first", x.about(0, 5), 1);
        x.wake(0, false);
        s.is("asleep", x.about(0, 5), 0);
        s.is("the next is awake at first, too", x.mast(0, 30, 1, 1), 1);
        s.is("at first", x.about(1, 5), 1);
    }

    private void ownMemory() {
        s.says(0, "All memory is the net's own.");
        MastField alone = Worlds.pair("t1;n2", 2, 2);
        MastField x = Worlds.pair("t1;n2", 2, 2);
        MastField other = new MastField();
        for (int i = 0; i < 8; i++) {
            other.mast(i, 200, 5, 5);
            other.caller(i);
            other.call(i);
            Worlds.told(other, "h" + i + ";m" + i);
            other.feed(i, i, i, i, i);
            other.rules(20);
            other.spot(i);
            other.shade(i, i);
            other.tick();
            s.is("a caller beside", x.caller(i), alone.caller(i));
            s.is("a call beside", x.call(i), alone.call(i));
            s.is("a tick beside", x.tick(), alone.tick());
            s.yes("another net changes nothing", Arrays.equals(Worlds.whole(x), Worlds.whole(alone)));
        }
    }

    private void constants() {
        s.says(0, "The constants: NONE = -1 : There is none.");
        s.is("NONE", MastField.NONE, -1);
    }

    private void newObject() {
        s.says(1, "8 by 8 CELLS; no MASTS, CALLERS.");
        MastField x = new MastField();
        s.is("the last cell", x.covered(63), 0);
        s.is("behind it", x.covered(64), -1);
        s.is("masts", x.count(2), 0);
        s.is("callers", x.count(3), 0);
        s.is("no mast 0", x.about(0, 0), -1);
        s.is("no caller 0", x.look(0, 0), -1);
        s.is("no call", x.call(0), -1);
        s.no("none to wake", x.wake(0, false));
        s.is("a tick of nobody", x.tick(), 1);
    }

    private void mapAnew() {
        s.says(2, "A MAP anew: all is as at first");
        MastField x = busy();
        s.is("a wait", x.look(1, 3), 1);
        s.is("an old place", x.look(0, 2), 0);
        s.is("a cause", x.look(2, 5), 2);
        s.is("a blocked call", x.count(6), 1);
        s.is("reports", x.reports(0, 2), 3);
        s.yes("map(8, 8)", x.map(8, 8));
        MastField y = new MastField();
        Worlds.told(y, "t1;d5;n5;h3");
        y.feed('h' << 24 | '9' << 16, 0, 0, 0, 0);
        s.yes("nothing of the old map is left", Arrays.equals(Worlds.whole(x), Worlds.whole(y)));
        for (MastField it : new MastField[] {x, y}) {
            it.mast(0, 100, 10, 2);
            it.mast(9, 100, 10, 2);
            it.mast(9, 90, 10, 2);
            it.caller(9);
            it.caller(0);
            it.caller(0);
        }
        s.is("a caller that was dropped", x.look(2, 5), 0);
        s.yes("nor of what is built anew", Arrays.equals(Worlds.whole(x), Worlds.whole(y)));
        for (int i = 0; i < 8; i++) {
            for (MastField it : new MastField[] {x, y}) {
                it.call(2 * i % 3);
                it.move(i % 3, 9 * (i % 2));
                it.tick();
            }
            s.yes("nor in later calls", Arrays.equals(Worlds.whole(x), Worlds.whole(y)));
        }
        s.yes("a spot of old can be told", x.spot(3));
    }

    /** All that a net can have: waits, old places, causes, reports, learnt ones, spots, shades, sleep, tallies. */
    private static MastField busy() {
        MastField x = Worlds.pair("t1;d5;n5;h3", 2, 2);
        x.mast(9, 100, 10, 0);
        x.shade(15, 15);
        x.spot(3);
        Worlds.inCall(x, 0, 9);
        Worlds.inCall(x, 9, 0);
        Worlds.inCall(x, 1, 9);
        Worlds.ticks(x, 3);
        x.wake(0, false);
        x.mast(0, 100, 10, 0);
        x.neighbour(1, 3, true);
        x.tick();
        x.caller(9);
        x.call(3);
        x.feed('h' << 24 | '9' << 16, 0, 0, 0, 0);
        return x;
    }

    private void mapKeepsRulesAndTape() {
        s.says(2, "(but THE RULES and the tape stay): true");
        MastField x = new MastField();
        Worlds.told(x, "h1;t3;m4;d5;w6;n7");
        x.feed('h' << 24 | '9' << 16, 0, 0, 0, 0);
        s.yes("map(5, 5)", x.map(5, 5));
        int[] due = {1, 3, 4, 5, 6, 7};
        for (int i = 0; i < 6; i++) {
            s.is("count(" + (20 + i) + ")", x.count(20 + i), due[i]);
        }
        s.is("the tape's bytes", x.count(16), 20);
        s.is("which are the same", x.rules(2), 0);
        s.is("h", x.count(20), 9);
    }

    private void mapRefuses() {
        s.says(2, "false: no such numbers.");
        MastField x = Worlds.heap("m20", 30);
        s.no("map(1, 8)", x.map(1, 8));
        s.no("map(8, 1)", x.map(8, 1));
        s.no("map(11, 8)", x.map(11, 8));
        s.no("map(8, 11)", x.map(8, 11));
        s.no("map(-8, -8)", x.map(-8, -8));
        s.is("the mast stays", x.count(2), 1);
    }

    private void shade() {
        s.says(3, "The SHADE of a CELL: true");
        MastField x = new MastField();
        s.yes("the first cell", x.shade(0, 20));
        s.yes("the last cell", x.shade(63, 1));
        s.yes("as it is", x.shade(63, 1));
        s.is("cell 0", x.count(30), 20);
        s.is("cell 1", x.count(31), 0);
        s.is("cell 63", x.count(93), 1);
        s.yes("no more", x.shade(0, 0));
        s.is("cell 0", x.count(30), 0);
    }

    private void shadeRefuses() {
        s.says(3, "false: no such ones.");
        MastField x = new MastField();
        x.shade(5, 5);
        s.no("cell -1", x.shade(-1, 5));
        s.no("cell 64", x.shade(64, 5));
        s.no("shade -1", x.shade(5, -1));
        s.no("shade 21", x.shade(5, 21));
        s.is("cell 5", x.count(35), 5);
        x.map(2, 2);
        s.no("a cell of another map", x.shade(4, 5));
    }

    private void mast() {
        s.says(4, "A MAST: its number");
        MastField x = new MastField();
        s.is("the first", x.mast(0, 0, 0, 0), 0);
        s.is("the second", x.mast(63, 200, 10, 20), 1);
        int[][] due = {{0, 0, 0, 0, 0, 1, 0, 0}, {63, 200, 10, 20, 0, 1, 0, 64}};
        for (int m = 0; m < 2; m++) {
            for (int what = 0; what < 8; what++) {
                s.is("about(" + m + ", " + what + ")", x.about(m, what), due[m][what]);
            }
        }
    }

    private void mastRefuses() {
        s.says(4, "NONE: no such ones, 8 are there.");
        MastField x = new MastField();
        s.is("cell -1", x.mast(-1, 1, 1, 1), -1);
        s.is("cell 64", x.mast(64, 1, 1, 1), -1);
        s.is("power -1", x.mast(0, -1, 1, 1), -1);
        s.is("power 201", x.mast(0, 201, 1, 1), -1);
        s.is("reach -1", x.mast(0, 1, -1, 1), -1);
        s.is("reach 11", x.mast(0, 1, 11, 1), -1);
        s.is("places -1", x.mast(0, 1, 1, -1), -1);
        s.is("places 21", x.mast(0, 1, 1, 21), -1);
        for (int m = 0; m < 8; m++) {
            s.is("a refused one takes no number", x.mast(m, 1, 1, 1), m);
        }
        s.is("8 are there", x.mast(0, 1, 1, 1), -1);
        s.is("count(2)", x.count(2), 8);
        x.wake(0, false);
        s.is("one asleep is there, too", x.mast(0, 1, 1, 1), -1);
    }

    private void reach() {
        s.says(5, "REACH of MAST m: true");
        MastField x = Worlds.heap("m20", 100, 100);
        s.yes("reach(1, 0)", x.reach(1, 0));
        s.is("about(1, 2)", x.about(1, 2), 0);
        s.is("the field by it", x.field(1, 7), 100 - 21 - 28);
        s.is("the other's", x.field(0, 7), 79);
        s.yes("reach(1, 10)", x.reach(1, 10));
        s.is("the field by it", x.field(1, 7), 79);
        s.yes("as it is", x.reach(1, 10));
        x.wake(1, false);
        s.yes("of one asleep", x.reach(1, 3));
        s.is("about(1, 2)", x.about(1, 2), 3);
    }

    private void reachRefuses() {
        s.says(5, "false: no such ones.");
        MastField x = Worlds.heap("m20", 100);
        s.no("mast 1", x.reach(1, 5));
        s.no("mast -1", x.reach(-1, 5));
        s.no("reach -1", x.reach(0, -1));
        s.no("reach 11", x.reach(0, 11));
        s.is("about(0, 2)", x.about(0, 2), 10);
    }

    private void wake() {
        s.says(6, "MAST m is AWAKE (is), or falls asleep: true");
        MastField x = Worlds.heap("m20", 100, 100);
        s.yes("wake(1, false)", x.wake(1, false));
        s.is("about(1, 5)", x.about(1, 5), 0);
        s.is("about(0, 5)", x.about(0, 5), 1);
        s.yes("wake(1, true)", x.wake(1, true));
        s.is("about(1, 5)", x.about(1, 5), 1);
    }

    private void wakeRefuses() {
        s.says(6, "false: no such one, it is so.");
        MastField x = Worlds.heap("m20", 100);
        s.no("mast 1", x.wake(1, false));
        s.no("mast -1", x.wake(-1, false));
        s.no("awake so", x.wake(0, true));
        s.is("about(0, 5)", x.about(0, 5), 1);
        x.wake(0, false);
        s.no("asleep so", x.wake(0, false));
        s.is("about(0, 5)", x.about(0, 5), 0);
    }
}
