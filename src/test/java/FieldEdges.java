/** The field (Terms) and promise 7. */
final class FieldEdges {
    private final Sentences s;

    FieldEdges(Sentences s) {
        this.s = s;
    }

    void all() {
        steps();
        lessForSteps();
        lessBeyondReach();
        cellsOnTheWay();
        halvesUp();
        belowZero();
        asleep();
        field();
        fieldOfNone();
    }

    private void steps() {
        s.says(0, "THE FIELD of an AWAKE MAST in a CELL: S is the greater of the differences of columns and of rows;");
        MastField x = new MastField();
        x.map(10, 10);
        for (int m : new int[] {0, 9, 90, 99, 44}) {
            int mast = x.mast(m, 200, 10, 1);
            for (int c = 0; c < 100; c++) {
                int steps = Math.max(Math.abs(c % 10 - m % 10), Math.abs(c / 10 - m / 10));
                s.is("from cell " + m + " to " + c, x.field(mast, c), 200 - 3 * steps);
            }
        }
    }

    private void lessForSteps() {
        s.says(0, "POWER, less 3 S,");
        for (int power : new int[] {0, 1, 27, 199, 200}) {
            MastField x = Worlds.line("m20");
            x.mast(0, power, 10, 1);
            s.is("in its own cell", x.field(0, 0), power);
            s.is("a step away", x.field(0, 1), power - 3);
            s.is("nine steps away", x.field(0, 9), power - 27);
        }
    }

    private void lessBeyondReach() {
        s.says(0, "less 4 for each step that S is more than REACH,");
        MastField x = Worlds.line("m20");
        x.mast(0, 100, 0, 1);
        for (int reach = 0; reach <= 10; reach++) {
            x.reach(0, reach);
            for (int c = 0; c < 10; c++) {
                int beyond = c > reach ? c - reach : 0;
                s.is("reach " + reach + ", " + c + " steps", x.field(0, c), 100 - 3 * c - 4 * beyond);
            }
        }
    }

    private void cellsOnTheWay() {
        s.says(0, "less the SHADES of S CELLS on the way: the k-th of them (k from 1 to S) is in the column of the MAST"
            + " and k / S of the difference, and the row likewise,");
        way(27, 27);
        way(27, 28, 28);
        way(27, 26, 26);
        way(27, 31, 28, 29, 30, 31);
        way(27, 24, 26, 25, 24);
        way(27, 59, 35, 43, 51, 59);
        way(27, 3, 19, 11, 3);
        way(27, 63, 36, 45, 54, 63);
        way(27, 0, 18, 9, 0);
        way(27, 6, 20, 13, 6);
        way(27, 48, 34, 41, 48);
        way(7, 56, 14, 21, 28, 35, 42, 49, 56);
        wayOn(10, 2, 0, 19, 1, 2, 3, 4, 15, 16, 17, 18, 19);
        wayOn(2, 10, 0, 19, 2, 4, 6, 8, 11, 13, 15, 17, 19);
        wayOn(10, 2, 19, 0, 18, 17, 16, 15, 4, 3, 2, 1, 0);
        wayOn(2, 10, 19, 0, 17, 15, 13, 11, 8, 6, 4, 2, 0);
    }

    private void halvesUp() {
        s.says(0, "both rounded to the nearest (halves up, to the greater number).");
        // Halves of columns, then of rows, to all sides.
        way(27, 44, 36, 44);
        way(27, 42, 35, 42);
        way(27, 12, 20, 12);
        way(27, 10, 19, 10);
        way(27, 37, 36, 37);
        way(27, 21, 28, 21);
        way(27, 33, 34, 33);
        way(27, 17, 26, 17);
        // Halves of six steps, there and back, down and up.
        way(0, 30, 9, 10, 19, 20, 29, 30);
        way(30, 0, 29, 20, 19, 10, 9, 0);
        way(24, 6, 25, 18, 19, 12, 13, 6);
        way(6, 24, 13, 12, 19, 18, 25, 24);
        // Thirds, quarters and fifths go to the nearest.
        way(0, 11, 1, 10, 11);
        way(0, 19, 9, 10, 19);
        way(11, 0, 10, 1, 0);
        way(0, 12, 1, 10, 11, 12);
        way(8, 4, 9, 10, 3, 4);
        way(0, 21, 1, 10, 11, 20, 21);
        way(0, 42, 8, 17, 25, 34, 42);
        wayOn(3, 5, 0, 14, 4, 7, 11, 14);
        wayOn(5, 3, 0, 14, 6, 7, 13, 14);
    }

    private void way(int from, int to, int... cells) {
        wayOn(8, 8, from, to, cells);
    }

    /** Shades one cell after the other, and counts how often each is on the way. */
    private void wayOn(int w, int h, int from, int to, int... cells) {
        MastField x = new MastField();
        x.map(w, h);
        x.mast(from, 200, 10, 1);
        int clear = x.field(0, to);
        s.is("steps from " + from + " to " + to, clear, 200 - 3 * cells.length);
        int sum = 0;
        for (int c = 0; c < w * h; c++) {
            int times = 0;
            for (int on : cells) {
                times += on == c ? 1 : 0;
            }
            int before = x.field(0, to);
            x.shade(c, 20);
            s.is("from " + from + " to " + to + ", by cell " + c, before - x.field(0, to), 20 * times);
            x.shade(c, c % 21);
            sum += times * (c % 21);
        }
        s.is("from " + from + " to " + to + ", all shades together", clear - x.field(0, to), sum);
    }

    private void belowZero() {
        s.says(0, "It can be below 0.");
        MastField x = new MastField();
        x.map(10, 10);
        x.mast(0, 2, 10, 1);
        s.is("2 less 3", x.field(0, 1), -1);
        x.mast(0, 0, 0, 1);
        for (int c = 0; c < 100; c++) {
            x.shade(c, 20);
        }
        s.is("0 less 3, 4 and 20", x.field(1, 1), -27);
        s.is("the lowest of all", x.field(1, 99), -27 - 36 - 180);
    }

    private void asleep() {
        s.says(0, "A MAST asleep has none.");
        MastField x = Worlds.heap("m0;h0;n1;t1", 50, 200);
        x.wake(1, false);
        x.neighbour(0, 1, true);
        s.is("field", x.field(1, 0), -1000);
        s.is("about 7", x.about(1, 7), 0);
        x.caller(0);
        s.is("it takes no call", x.call(0), 0);
        x.tick();
        s.is("it is no target", x.look(0, 3), 0);
        x.neighbour(0, 1, false);
        x.tick();
        s.is("it is not reported", x.reports(0, 1), 0);
        s.is("nor learnt", x.count(17), 0);
        x.wake(1, true);
        s.is("awake again", x.field(1, 0), 200);
    }

    private void field() {
        s.says(7, "THE FIELD of MAST m in a CELL;");
        MastField x = Worlds.heap("m20", 100, 50);
        s.is("mast 0, the first cell", x.field(0, 0), 100);
        s.is("mast 1, the first cell", x.field(1, 0), 50);
        s.is("mast 1, the last cell", x.field(1, 63), 29);
    }

    private void fieldOfNone() {
        s.says(7, "-1000: it is asleep, no such ones.");
        MastField x = Worlds.heap("m20", 100, 100);
        x.wake(1, false);
        s.is("asleep", x.field(1, 0), -1000);
        s.is("mast 2", x.field(2, 0), -1000);
        s.is("mast -1", x.field(-1, 0), -1000);
        s.is("mast 8", x.field(8, 0), -1000);
        s.is("cell 64", x.field(0, 64), -1000);
        s.is("cell -1", x.field(0, -1), -1000);
    }
}
