/** Covered cells, spots, which masts may sleep, reaches and loss (Terms), and promises 19 to 23. */
final class CoverEdges {
    private final Sentences s;

    CoverEdges(Sentences s) {
        this.s = s;
    }

    void all() {
        coveredAtLeast();
        spotsAtMost();
        setsOfAwakeMasts();
        coveredSpotsStaySo();
        mostMasts();
        leastAsBits();
        reachesOfTheFirst();
        oneThreeFive();
        othersAsTheyAre();
        leastRow();
        lossNumbers();
        lossShare();
        lossRoundsDown();
        covered();
        coveredRefuses();
        spot();
        spotRefuses();
        sleep();
        best();
        bestCells();
        bestRefuses();
        loss();
        lossRefuses();
    }

    private void coveredAtLeast() {
        s.says(0, "COVERED is a CELL in which some MAST has a FIELD of m or more.");
        for (int m : new int[] {0, 1, 20, 100}) {
            MastField x = Worlds.heap("m" + m, m + 3);
            s.is("m " + m + ": one more than enough", x.covered(0), 1);
            s.is("m " + m + ": a field of m", x.covered(1), 1);
            x.shade(1, 1);
            s.is("m " + m + ": one less", x.covered(1), 0);
            x.mast(1, m, 0, 0);
            s.is("m " + m + ": some other mast, without places", x.covered(1), 1);
            x.wake(1, false);
            s.is("m " + m + ": which falls asleep", x.covered(1), 0);
        }
        s.is("no mast, m 0", Worlds.heap("m0").covered(0), 0);
    }

    private void spotsAtMost() {
        s.says(0, "SPOTS are CELLS that are told (20 at most).");
        MastField x = new MastField();
        for (int i = 0; i < 20; i++) {
            s.yes("spot " + i, x.spot(3 * i));
        }
        s.no("one more", x.spot(1));
        s.is("count(14)", x.count(14), 20);
        // Of twenty spots each counts: without the mast beside it one would be lost.
        for (int i = 0; i < 20; i++) {
            MastField y = new MastField();
            for (int j = 0; j < 20; j++) {
                y.spot(j);
            }
            y.mast(i, 20, 0, 0);
            s.is("the mast of spot " + i + " alone", y.sleep(), 0);
            y.map(8, 8);
            y.mast(20, 20, 0, 0);
            s.is("without spots", y.sleep(), 1);
        }
    }

    private void setsOfAwakeMasts() {
        s.says(0, "TO SLEEP: of all sets of AWAKE MASTS");
        MastField x = new MastField();
        s.is("of none", x.sleep(), 0);
        for (int m = 0; m < 8; m++) {
            x.mast(0, 50, 10, 1);
            s.is("all of " + (m + 1), x.sleep(), (2 << m) - 1);
        }
        x.wake(7, false);
        s.is("but the last", x.sleep(), 127);
        x.wake(0, false);
        s.is("but the first", x.sleep(), 126);
        for (int m = 1; m < 7; m++) {
            x.wake(m, false);
        }
        s.is("all asleep", x.sleep(), 0);
    }

    private void coveredSpotsStaySo() {
        s.says(0, "without which all SPOTS that are COVERED stay so");
        MastField x = Worlds.line("m20");
        x.mast(0, 20, 0, 0);
        x.mast(9, 20, 0, 0);
        x.spot(5);
        s.is("a spot that is not covered", x.sleep(), 3);
        x.spot(0);
        s.is("one that mast 0 covers", x.sleep(), 2);
        x.spot(9);
        s.is("one that mast 1 covers", x.sleep(), 0);
        x.wake(0, false);
        s.is("asleep, its spot is not covered", x.sleep(), 0);
        Worlds.told(x, "m21");
        s.is("by another m none is covered", x.sleep(), 2);
    }

    private void mostMasts() {
        s.says(0, "that with most MASTS;");
        MastField x = Worlds.line("m20");
        x.mast(5, 50, 10, 0);
        x.mast(4, 20, 0, 0);
        x.mast(6, 20, 0, 0);
        x.spot(4);
        x.spot(6);
        s.is("two, though one has lower bits", x.sleep(), 6);
        MastField y = Worlds.line("m20");
        y.mast(4, 20, 0, 0);
        y.mast(6, 20, 0, 0);
        y.mast(5, 50, 10, 0);
        y.spot(4);
        y.spot(6);
        s.is("two of lower bits", y.sleep(), 3);
    }

    private void leastAsBits() {
        s.says(0, "of like ones the least, as bits.");
        MastField x = new MastField();
        for (int m = 0; m < 8; m++) {
            x.mast(m % 2, 20, 0, 0);
        }
        x.spot(0);
        s.is("the highest that covers stays awake", x.sleep(), 255 - 64);
        x.spot(1);
        s.is("the highest of each spot", x.sleep(), 255 - 64 - 128);
        x.wake(6, false);
        s.is("of those awake", x.sleep(), 255 - 64 - 128 - 16);
    }

    private void reachesOfTheFirst() {
        s.says(0, "REACHES: for the first MASTS (four at most)");
        for (int masts = 0; masts <= 8; masts++) {
            MastField x = new MastField();
            for (int m = 0; m < masts; m++) {
                x.mast(m, 50, 10, 1);
            }
            for (int i = 0; i <= 8; i++) {
                int reach = x.best(i);
                boolean chosen = reach == 1 || reach == 3 || reach == 5;
                s.is(masts + " masts, best(" + i + ")", chosen ? 1 : reach, i < masts && i < 4 ? 1 : -1);
            }
        }
    }

    /** On a line from cell 0, with m 20: the reach by which most cells hear it, of like ones the least. */
    private void oneThreeFive() {
        s.says(0, "each 1, 3 or 5: of all choices");
        s.says(0, "that by which most CELLS are COVERED;");
        int[] powers = {19, 20, 23, 26, 29, 32, 35, 200};
        int[] reaches = {1, 1, 1, 3, 3, 5, 5, 1};
        int[] cells = {0, 1, 4, 6, 8, 10, 12, 20};
        for (int i = 0; i < powers.length; i++) {
            for (int reach : new int[] {0, 4, 10}) {
                MastField x = Worlds.line("m20");
                x.mast(0, powers[i], reach, 1);
                s.is("power " + powers[i], x.best(0), reaches[i]);
                s.is("cells by power " + powers[i], x.best(-1), cells[i]);
            }
        }
    }

    private void othersAsTheyAre() {
        s.says(0, "(all others, POWER, sleep as they are)");
        MastField x = Worlds.line("m20");
        x.mast(0, 35, 0, 1);
        for (int m = 1; m < 4; m++) {
            x.mast(0, 0, 0, 1);
        }
        x.mast(9, 35, 0, 1);
        s.is("the fifth's reach is not chosen", x.best(-1), 12 + 6);
        s.is("the first needs all it can have", x.best(0), 5);
        x.reach(4, 5);
        s.is("but counts", x.best(-1), 20);
        s.is("so that the first needs less", x.best(0), 3);
        x.reach(4, 10);
        x.wake(4, false);
        s.is("asleep it counts not", x.best(-1), 12);
        x.wake(0, false);
        s.is("nor does the first asleep", x.best(-1), 0);
        s.is("whose reach is the least then", x.best(0), 1);
        s.is("reach stays", x.about(0, 2), 0);
        s.is("power stays", x.about(0, 1), 35);
        s.is("sleep stays", x.about(0, 5), 0);
        s.is("the fifth's reach stays", x.about(4, 2), 10);
    }

    private void leastRow() {
        s.says(0, "of like ones the least row.");
        MastField x = Worlds.line("m20");
        for (int m = 0; m < 4; m++) {
            x.mast(0, 35, 0, 1);
        }
        int[] due = {1, 1, 1, 5};
        for (int i = 0; i < 4; i++) {
            s.is("four alike, best(" + i + ")", x.best(i), due[i]);
        }
        MastField y = Worlds.line("m20");
        y.mast(0, 35, 0, 1);
        y.mast(9, 35, 0, 1);
        s.is("12 cells of each, 20 in all: the first does with 3", y.best(0), 3);
        s.is("the second does not", y.best(1), 5);
        s.is("cells", y.best(-1), 20);
    }

    private void lossNumbers() {
        s.says(0, "LOSS of a MAST of c PLACES (0 to 6), if a calls come in the time of b calls (1 to 20 each):");
        MastField x = new MastField();
        for (int n = -1; n <= 22; n++) {
            s.is("loss(" + n + ", 1, 1)", Math.min(0, x.loss(n, 1, 1)), n >= 0 && n <= 6 ? 0 : -1);
            s.is("loss(1, " + n + ", 1)", Math.min(0, x.loss(1, n, 1)), n >= 1 && n <= 20 ? 0 : -1);
            s.is("loss(1, 1, " + n + ")", Math.min(0, x.loss(1, 1, n)), n >= 1 && n <= 20 ? 0 : -1);
        }
    }

    private void lossShare() {
        s.says(0, "with x = a / b, the share x^c / c! has of 1, x, x^2 / 2!, .. x^c / c! together,");
        MastField x = new MastField();
        s.is("no place: all are lost", x.loss(0, 1, 20), 1000000);
        s.is("no place: all are lost", x.loss(0, 20, 1), 1000000);
        s.is("1 of 1 and 1", x.loss(1, 7, 7), 500000);
        s.is("1/2 of 1, 1 and 1/2", x.loss(2, 1, 1), 200000);
        s.is("2 of 1, 2 and 2", x.loss(2, 20, 10), 400000);
        s.is("8 of 1, 4 and 8", x.loss(2, 4, 1), 615384);
        s.is("1/8 of 1, 1/2 and 1/8", x.loss(2, 1, 2), 76923);
        s.is("the most places, few calls", x.loss(6, 1, 20), 0);
        s.is("1/720 of 1957/720", x.loss(6, 1, 1), 510);
    }

    private void lossRoundsDown() {
        s.says(0, "in millionths, rounded down.");
        MastField x = new MastField();
        s.is("20/21", x.loss(1, 20, 1), 952380);
        s.is("1/21", x.loss(1, 1, 20), 47619);
        s.is("2/3", x.loss(1, 2, 1), 666666);
        s.is("19/39", x.loss(1, 19, 20), 487179);
        // 20^6 / 720 of the sum: 64000000 of 89119120, that is 0.7181399..
        s.is("the most places, the most calls", x.loss(6, 20, 1), 64000000L * 1000000 / 89119120);
    }

    private void covered() {
        s.says(19, "Whether a CELL is COVERED: 1, 0;");
        MastField x = Worlds.heap("m20", 41);
        s.is("its own cell", x.covered(0), 1);
        s.is("the last that is", x.covered(63), 1);
        x.shade(63, 1);
        s.is("in a shade", x.covered(63), 0);
    }

    private void coveredRefuses() {
        s.says(19, "NONE: no such one.");
        MastField x = Worlds.heap("m20", 200);
        s.is("cell -1", x.covered(-1), -1);
        s.is("cell 63", x.covered(63), 1);
        s.is("cell 64", x.covered(64), -1);
    }

    private void spot() {
        s.says(20, "A SPOT: true;");
        MastField x = new MastField();
        s.yes("the first cell", x.spot(0));
        s.yes("the last cell", x.spot(63));
        s.is("count(14)", x.count(14), 2);
    }

    private void spotRefuses() {
        s.says(20, "false: no such CELL, it is one, 20 are.");
        MastField x = new MastField();
        x.map(5, 5);
        s.no("cell -1", x.spot(-1));
        s.no("cell 25", x.spot(25));
        for (int i = 0; i < 20; i++) {
            s.yes("told", x.spot(24 - i));
            for (int told = 0; told <= i; told++) {
                s.no("it is one", x.spot(24 - told));
            }
        }
        s.no("20 are", x.spot(0));
        s.is("count(14)", x.count(14), 20);
    }

    private void sleep() {
        s.says(21, "TO SLEEP: the set, as bits.");
        MastField x = Worlds.heap("m20", 50, 50, 50);
        x.spot(63);
        s.is("mast 0 and mast 1", x.sleep(), 3);
        s.is("asked again", x.sleep(), 3);
        s.is("none falls asleep by it", x.about(0, 5), 1);
    }

    private void best() {
        s.says(22, "REACHES, by the best choice, of the i-th MAST;");
        MastField x = Worlds.line("m20");
        for (int power : new int[] {26, 35, 19, 23}) {
            x.mast(x.count(2) * 2, power, 0, 1);
        }
        int cells = x.best(-1);
        int[] row = {x.best(0), x.best(1), x.best(2), x.best(3)};
        for (int m = 0; m < 4; m++) {
            x.reach(m, row[m]);
        }
        s.is("with these reaches as many are covered", x.count(15), cells);
        s.is("the third covers nothing", row[2], 1);
        s.is("the fourth needs no more", row[3], 1);
    }

    private void bestCells() {
        s.says(22, "i NONE: how many CELLS are COVERED by it.");
        MastField x = Worlds.line("m20");
        s.is("no masts: none", x.best(MastField.NONE), 0);
        x.mast(0, 26, 0, 1);
        s.is("as it is", x.count(15), 1);
        s.is("by the best choice", x.best(MastField.NONE), 6);
        s.is("it stays as it is", x.count(15), 1);
        x.reach(0, 10);
        s.is("by the best choice", x.best(MastField.NONE), 6);
        MastField y = Worlds.line("m20");
        y.mast(0, 47, 10, 1);
        s.is("as it is", y.count(15), 20);
        s.is("by a choice that is worse", y.best(MastField.NONE), 14);
    }

    private void bestRefuses() {
        s.says(22, "NONE: there is none such.");
        MastField x = new MastField();
        s.is("no masts", x.best(0), -1);
        x.mast(0, 50, 1, 1);
        s.is("the first", x.best(0), 5);
        s.is("no second", x.best(1), -1);
        s.is("i -2", x.best(-2), -1);
        for (int m = 1; m < 8; m++) {
            x.mast(0, 50, 1, 1);
        }
        s.is("the fifth is not chosen", x.best(4), -1);
        s.is("the eighth", x.best(7), -1);
        s.is("no ninth", x.best(8), -1);
    }

    private void loss() {
        s.says(23, "LOSS;");
        MastField x = new MastField();
        s.is("loss(1, 1, 1)", x.loss(1, 1, 1), 500000);
        s.is("loss(3, 1, 2)", x.loss(3, 1, 2), 12658);
    }

    private void lossRefuses() {
        s.says(23, "NONE: no such numbers.");
        MastField x = new MastField();
        s.is("c -1", x.loss(-1, 1, 1), -1);
        s.is("c 7", x.loss(7, 1, 1), -1);
        s.is("a 0", x.loss(1, 0, 1), -1);
        s.is("a 21", x.loss(1, 21, 1), -1);
        s.is("b 0", x.loss(1, 1, 0), -1);
        s.is("b 21", x.loss(1, 1, 21), -1);
        s.is("c 0, b 0", x.loss(0, 1, 0), -1);
        s.is("c 0, a 0", x.loss(0, 0, 1), -1);
    }
}
