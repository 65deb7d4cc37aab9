/** Promises 1 to 7: a new object, map, shade, mast, reach, wake, field. */
public final class FieldTest {
    private static final Due DUE = new Due("FieldTest");

    public static void main(String[] args) {
        newObject();
        map();
        mapStartsAnew();
        mapForgetsReportsAndCauses();
        shade();
        mast();
        reach();
        wake();
        field();
        fieldRounds();
        fieldBelowZero();
        DUE.end();
    }

    private static void newObject() {
        MastField x = new MastField();
        int[] atFirst = {8, 8, 0, 0, 0, 0, 0, 0, 0, 0, 0, 0, 0, 0, 0, 0, 0, 0, -1, -1, 6, 2, 20, 1, 10, 3, -1, -1, -1, -1};
        for (int what = 0; what < atFirst.length; what++) {
            DUE.is("1 count(" + what + ")", x.count(what), atFirst[what]);
        }
        for (int c = 0; c < 64; c++) {
            DUE.is("1 count(30 + " + c + ")", x.count(30 + c), 0);
        }
        DUE.is("1 count(94)", x.count(94), -1);
        DUE.is("1 about(0, 0)", x.about(0, 0), -1);
        DUE.is("1 look(0, 0)", x.look(0, 0), -1);
        DUE.is("1 best(-1)", x.best(-1), 0);
        DUE.is("1 best(0)", x.best(0), -1);
        DUE.is("1 sleep()", x.sleep(), 0);
    }

    private static void map() {
        MastField x = new MastField();
        int[][] wrong = {{1, 5}, {5, 1}, {11, 5}, {5, 11}, {0, 0}, {-3, 5}, {5, Integer.MIN_VALUE}, {Integer.MAX_VALUE, 2}};
        for (int[] sides : wrong) {
            DUE.no("2 map(" + sides[0] + ", " + sides[1] + ")", x.map(sides[0], sides[1]));
        }
        DUE.is("2 count(0)", x.count(0), 8);
        for (int w = 2; w <= 10; w++) {
            for (int h = 2; h <= 10; h++) {
                DUE.yes("2 map(" + w + ", " + h + ")", x.map(w, h));
                DUE.is("2 count(0)", x.count(0), w);
                DUE.is("2 count(1)", x.count(1), h);
                DUE.is("2 covered, the last cell", x.covered(w * h - 1), 0);
                DUE.is("2 covered, behind it", x.covered(w * h), -1);
            }
        }
    }

    private static void mapStartsAnew() {
        MastField x = new MastField();
        DUE.is("2 rules", Due.tell(x, "h1;m30;n1;t1"), 0);
        x.feed(1, 2, 3, 4, 5);
        x.mast(0, 100, 3, 1);
        x.mast(9, 150, 3, 1);
        x.mast(18, 0, 3, 0);
        x.shade(5, 5);
        x.spot(3);
        x.caller(0);
        x.caller(0);
        x.neighbour(0, 2, true);
        x.call(0);
        x.call(1);
        x.caller(63);
        x.call(2);
        x.tick();
        x.tick();
        DUE.no("2 map(1, 1)", x.map(1, 1));
        DUE.is("2 refused, count(2)", x.count(2), 3);
        DUE.is("2 refused, count(5)", x.count(5), 2);
        DUE.yes("2 map(8, 8)", x.map(8, 8));
        int[] due = {8, 8, 0, 0, 0, 0, 0, 0, 0, 0, 0, 0, 0, 0, 0, 0, 20, 0, -1, -1, 1, 1, 30, 1, 10, 1};
        for (int what = 0; what < due.length; what++) {
            DUE.is("2 anew, count(" + what + ")", x.count(what), due[what]);
        }
        DUE.is("2 anew, count(35)", x.count(35), 0);
        DUE.yes("2 anew, spot(3)", x.spot(3));
        DUE.is("2 anew, mast", x.mast(0, 100, 3, 1), 0);
        DUE.is("2 anew, mast", x.mast(1, 100, 3, 1), 1);
        DUE.is("2 anew, mast", x.mast(2, 100, 3, 1), 2);
        for (int what = 4; what < 7; what++) {
            DUE.is("2 anew, about(0, " + what + ")", x.about(0, what), what == 5 ? 1 : 0);
        }
        DUE.is("2 anew, reports", x.reports(0, 1), 0);
        DUE.is("2 anew, caller", x.caller(0), 0);
        DUE.is("2 anew, look(0, 1)", x.look(0, 1), -1);
        DUE.is("2 anew, look(0, 5)", x.look(0, 5), 0);
    }

    private static void mapForgetsReportsAndCauses() {
        MastField x = new MastField();
        x.mast(0, 50, 10, 1);
        x.mast(0, 60, 10, 0);
        x.caller(0);
        x.call(0);
        x.tick();
        DUE.is("2 reports", x.reports(0, 1), 1);
        x.wake(0, false);
        x.tick();
        DUE.is("2 dropped", x.look(0, 5), 2);
        x.map(8, 8);
        x.mast(0, 50, 10, 1);
        x.mast(0, 60, 10, 0);
        x.caller(0);
        DUE.is("2 anew, reports", x.reports(0, 1), 0);
        DUE.is("2 anew, about(0, 5)", x.about(0, 5), 1);
        DUE.is("2 anew, look(0, 5)", x.look(0, 5), 0);
        DUE.is("2 anew, call", x.call(0), 0);
        DUE.is("2 anew, tick", x.tick(), 1);
        DUE.is("2 anew, reports", x.reports(0, 1), 1);
    }

    private static void shade() {
        MastField x = new MastField();
        DUE.yes("3 shade(63, 20)", x.shade(63, 20));
        DUE.is("3 count(93)", x.count(93), 20);
        DUE.yes("3 shade(63, 20) again", x.shade(63, 20));
        DUE.yes("3 shade(63, 0)", x.shade(63, 0));
        DUE.is("3 count(93)", x.count(93), 0);
        DUE.yes("3 shade(0, 7)", x.shade(0, 7));
        DUE.no("3 shade(0, 21)", x.shade(0, 21));
        DUE.no("3 shade(0, -1)", x.shade(0, -1));
        DUE.no("3 shade(64, 1)", x.shade(64, 1));
        DUE.no("3 shade(-1, 1)", x.shade(-1, 1));
        DUE.no("3 shade(least, 1)", x.shade(Integer.MIN_VALUE, 1));
        DUE.is("3 count(30)", x.count(30), 7);
    }

    private static void mast() {
        MastField x = new MastField();
        int[][] wrong = {{-1, 1, 1, 1}, {64, 1, 1, 1}, {0, -1, 1, 1}, {0, 201, 1, 1}, {0, 1, -1, 1}, {0, 1, 11, 1},
            {0, 1, 1, -1}, {0, 1, 1, 21}};
        for (int[] w : wrong) {
            DUE.is("4 mast, wrong", x.mast(w[0], w[1], w[2], w[3]), -1);
        }
        DUE.is("4 count(2)", x.count(2), 0);
        DUE.is("4 mast(0, 0, 0, 0)", x.mast(0, 0, 0, 0), 0);
        DUE.is("4 mast(63, 200, 10, 20)", x.mast(63, 200, 10, 20), 1);
        int[] due = {63, 200, 10, 20, 0, 1, 0};
        for (int what = 0; what < due.length; what++) {
            DUE.is("4 about(1, " + what + ")", x.about(1, what), due[what]);
        }
        for (int m = 2; m < 8; m++) {
            DUE.is("4 mast, in a cell that has one", x.mast(0, 1, 1, 1), m);
        }
        DUE.is("4 a ninth mast", x.mast(0, 1, 1, 1), -1);
        DUE.is("4 count(2)", x.count(2), 8);
    }

    private static void reach() {
        MastField x = new MastField();
        x.mast(0, 100, 3, 1);
        DUE.is("5 field(0, 7)", x.field(0, 7), 63);
        DUE.yes("5 reach(0, 10)", x.reach(0, 10));
        DUE.is("5 field(0, 7)", x.field(0, 7), 79);
        DUE.yes("5 reach(0, 0)", x.reach(0, 0));
        DUE.is("5 field(0, 7)", x.field(0, 7), 51);
        DUE.yes("5 reach(0, 0) again", x.reach(0, 0));
        DUE.no("5 reach(0, 11)", x.reach(0, 11));
        DUE.no("5 reach(0, -1)", x.reach(0, -1));
        DUE.no("5 reach(1, 1)", x.reach(1, 1));
        DUE.no("5 reach(-1, 1)", x.reach(-1, 1));
        DUE.is("5 about(0, 2)", x.about(0, 2), 0);
    }

    private static void wake() {
        MastField x = new MastField();
        x.mast(0, 100, 3, 1);
        DUE.no("6 wake(0, true)", x.wake(0, true));
        DUE.yes("6 wake(0, false)", x.wake(0, false));
        DUE.no("6 wake(0, false) again", x.wake(0, false));
        DUE.is("6 about(0, 5)", x.about(0, 5), 0);
        DUE.is("6 field(0, 0)", x.field(0, 0), -1000);
        DUE.yes("6 wake(0, true)", x.wake(0, true));
        DUE.is("6 about(0, 5)", x.about(0, 5), 1);
        DUE.is("6 field(0, 0)", x.field(0, 0), 100);
        DUE.no("6 wake(1, false)", x.wake(1, false));
        DUE.no("6 wake(-1, true)", x.wake(-1, true));
        DUE.no("6 wake(8, true)", x.wake(8, true));
    }

    private static void field() {
        MastField x = new MastField();
        x.mast(27, 60, 2, 1);
        DUE.is("7 field in its own cell", x.field(0, 27), 60);
        x.shade(27, 20);
        DUE.is("7 its own cell's shade is not on the way", x.field(0, 27), 60);
        DUE.is("7 field(0, 28)", x.field(0, 28), 57);
        DUE.is("7 at its reach", x.field(0, 29), 54);
        DUE.is("7 a step beyond", x.field(0, 30), 47);
        DUE.is("7 four beyond in rows", x.field(0, 59), 60 - 12 - 8);
        x.shade(30, 9);
        DUE.is("7 the shade of the last cell counts", x.field(0, 30), 38);
        DUE.is("7 and behind it", x.field(0, 31), 60 - 12 - 8 - 9);
        DUE.is("7 no such mast", x.field(1, 0), -1000);
        DUE.is("7 no such mast", x.field(-1, 0), -1000);
        DUE.is("7 no such cell", x.field(0, 64), -1000);
        DUE.is("7 no such cell", x.field(0, -1), -1000);
    }

    /** Halves go to the greater number whichever way the field goes: the ways there and back differ. */
    private static void fieldRounds() {
        MastField x = new MastField();
        x.mast(0, 100, 10, 1);
        x.mast(17, 100, 10, 1);
        // From (0, 0) to (column 1, row 2): the first cell is column 1/2, so 1, of row 1.
        x.shade(9, 5);
        x.shade(8, 7);
        DUE.is("7 half a column there", x.field(0, 17), 100 - 6 - 5);
        DUE.is("7 half a column back", x.field(1, 0), 100 - 6 - 5);
        // From (0, 0) to (3, 1): columns 1, 2, 3, rows 1/3 (0), 2/3 (1), 1.
        x.shade(1, 1);
        x.shade(10, 2);
        x.shade(2, 11);
        x.shade(11, 4);
        DUE.is("7 thirds", x.field(0, 11), 100 - 9 - 1 - 2 - 4);
    }

    private static void fieldBelowZero() {
        MastField x = new MastField();
        x.map(10, 10);
        for (int c = 0; c < 100; c++) {
            x.shade(c, 20);
        }
        x.mast(0, 0, 0, 1);
        DUE.is("7 the lowest field", x.field(0, 99), -27 - 36 - 180);
        DUE.is("7 field(0, 1)", x.field(0, 1), -27);
    }
}
