import java.math.BigInteger;

/** Promises 19 to 24: covered, spot, sleep, best, loss, count. */
public final class CoverTest {
    private static final Due DUE = new Due("CoverTest");

    public static void main(String[] args) {
        covered();
        spot();
        sleep();
        sleepWithoutSpots();
        sleepOfLikeOnes();
        sleepWithAllSpots();
        best();
        bestOfTheFirstFour();
        bestOfLikeRows();
        loss();
        lossRefuses();
        count();
        DUE.end();
    }

    private static void covered() {
        MastField x = new MastField();
        DUE.is("19 no mast", x.covered(0), 0);
        x.mast(0, 26, 10, 1);
        DUE.is("19 a field of m", x.covered(2), 1);
        DUE.is("19 a field below", x.covered(3), 0);
        DUE.is("19 no such cell", x.covered(64), -1);
        DUE.is("19 no such cell", x.covered(-1), -1);
        DUE.is("24 covered cells", x.count(15), 9);
        Due.tell(x, "m23");
        DUE.is("19 by another m", x.covered(2), 0);
        DUE.is("19 by another m", x.covered(1), 1);
        Due.tell(x, "m0");
        DUE.is("24 covered cells, m 0", x.count(15), 64);
        x.wake(0, false);
        DUE.is("19 asleep", x.covered(0), 0);
        DUE.is("24 covered cells", x.count(15), 0);
    }

    private static void spot() {
        MastField x = new MastField();
        DUE.no("20 no such cell", x.spot(64));
        DUE.no("20 no such cell", x.spot(-1));
        for (int i = 0; i < 20; i++) {
            DUE.yes("20 spot", x.spot(63 - i));
            DUE.no("20 it is one", x.spot(63 - i));
            DUE.is("24 count(14)", x.count(14), i + 1);
        }
        DUE.no("20 20 are", x.spot(0));
        DUE.is("24 count(14)", x.count(14), 20);
    }

    private static void sleep() {
        MastField x = new MastField();
        x.mast(0, 23, 10, 1);
        x.mast(3, 26, 10, 1);
        x.mast(6, 23, 10, 1);
        x.spot(1);
        x.spot(5);
        x.spot(63);
        DUE.is("21 the one in the middle covers both", x.sleep(), 5);
        x.spot(0);
        DUE.is("21 the first has to stay, of the others the least sleeps", x.sleep(), 2);
        x.wake(1, false);
        DUE.is("21 only masts awake", x.sleep(), 0);
        x.wake(2, false);
        DUE.is("21 spots that aren't covered don't count", x.sleep(), 0);
        x.wake(1, true);
        DUE.is("21 sleep()", x.sleep(), 0);
    }

    private static void sleepWithoutSpots() {
        MastField x = new MastField();
        for (int m = 0; m < 8; m++) {
            x.mast(0, 20, 0, 1);
        }
        DUE.is("21 all", x.sleep(), 255);
        x.wake(3, false);
        DUE.is("21 all that are awake", x.sleep(), 247);
        x.spot(0);
        DUE.is("21 all but the highest", x.sleep(), 119);
        x.wake(7, false);
        DUE.is("21 all but the highest awake", x.sleep(), 55);
    }

    private static void sleepOfLikeOnes() {
        MastField x = new MastField();
        x.mast(0, 20, 10, 1);
        x.mast(2, 20, 10, 1);
        x.mast(1, 23, 0, 1);
        x.spot(0);
        x.spot(2);
        Due.tell(x, "m16");
        DUE.is("21 most masts", x.sleep(), 3);
        x.wake(2, false);
        DUE.is("21 none to spare", x.sleep(), 0);
        x.mast(0, 20, 10, 1);
        DUE.is("21 of like ones the least", x.sleep(), 1);
    }

    /** Twenty spots, the last of which alone needs the second mast. */
    private static void sleepWithAllSpots() {
        MastField x = new MastField();
        x.map(10, 10);
        x.mast(0, 200, 10, 1);
        x.mast(99, 20, 0, 1);
        for (int i = 0; i < 19; i++) {
            x.spot(i);
        }
        x.shade(99, 20);
        Due.tell(x, "m20");
        DUE.is("21 nineteen spots", x.sleep(), 2);
        x.reach(0, 0);
        x.shade(88, 20);
        x.shade(77, 20);
        x.shade(66, 20);
        x.shade(55, 20);
        x.shade(44, 20);
        DUE.is("21 the far corner's field of the first mast", x.field(0, 99), 200 - 27 - 36 - 120);
        x.spot(99);
        DUE.is("21 count(14)", x.count(14), 20);
        DUE.is("21 the twentieth spot counts", x.sleep(), 0);
    }

    private static void best() {
        MastField x = new MastField();
        DUE.is("22 no masts: no cells", x.best(-1), 0);
        DUE.is("22 no masts", x.best(0), -1);
        // In the far corner 50 - 21 less 8 with a reach of 5, less 16 with one of 3.
        x.mast(0, 50, 10, 1);
        DUE.is("22 best(-1)", x.best(-1), 64);
        DUE.is("22 best(0)", x.best(0), 5);
        DUE.is("22 the mast stays", x.about(0, 2), 10);
        x.shade(7, 20);
        DUE.is("22 with a shade", x.best(-1), 63);
        Due.tell(x, "m47");
        DUE.is("22 a reach of 1 is enough", x.best(0), 1);
        DUE.is("22 best(-1)", x.best(-1), 4);
        DUE.is("22 best(1)", x.best(1), -1);
        DUE.is("22 best(-2)", x.best(-2), -1);
        x.wake(0, false);
        DUE.is("22 asleep", x.best(-1), 0);
        DUE.is("22 asleep", x.best(0), 1);
    }

    private static void bestOfTheFirstFour() {
        MastField x = new MastField();
        for (int m = 0; m < 5; m++) {
            x.mast(9 * m, 30, 0, 1);
        }
        DUE.is("22 best(3)", x.best(3) > 0 ? 1 : 0, 1);
        DUE.is("22 the fifth has no choice", x.best(4), -1);
        MastField y = new MastField();
        for (int m = 0; m < 4; m++) {
            y.mast(0, 0, 0, 1);
        }
        y.mast(63, 200, 10, 1);
        DUE.is("22 others cover as they are", y.best(-1), 64);
        for (int m = 0; m < 4; m++) {
            DUE.is("22 the least row", y.best(m), 1);
        }
    }

    private static void bestOfLikeRows() {
        MastField x = new MastField();
        x.map(10, 2);
        x.mast(0, 34, 0, 1);
        x.mast(0, 34, 0, 1);
        DUE.is("22 the least row, the first mast first", x.best(0), 1);
        DUE.is("22 the least row", x.best(1), 5);
        DUE.is("22 cells", x.best(-1), 10);
    }

    private static void loss() {
        MastField x = new MastField();
        for (int c = 0; c <= 6; c++) {
            for (int a = 1; a <= 20; a++) {
                for (int b = 1; b <= 20; b++) {
                    DUE.is("23 loss(" + c + ", " + a + ", " + b + ")", x.loss(c, a, b), lossOf(c, a, b));
                }
            }
        }
    }

    /** Whole fractions of one divisor: 720 b^6. */
    private static int lossOf(int c, int a, int b) {
        BigInteger sum = BigInteger.ZERO;
        BigInteger part = BigInteger.ZERO;
        for (int i = 0; i <= c; i++) {
            long factorial = 1;
            for (int f = 2; f <= i; f++) {
                factorial *= f;
            }
            part = BigInteger.valueOf(a).pow(i).multiply(BigInteger.valueOf(b).pow(6 - i))
                .multiply(BigInteger.valueOf(720 / factorial));
            sum = sum.add(part);
        }
        return part.multiply(BigInteger.valueOf(1000000)).divide(sum).intValueExact();
    }

    private static void lossRefuses() {
        MastField x = new MastField();
        int[][] wrong = {{-1, 1, 1}, {7, 1, 1}, {1, 0, 1}, {1, 21, 1}, {1, 1, 0}, {1, 1, 21}, {1, -1, -1},
            {Integer.MAX_VALUE, 1, 1}, {1, Integer.MIN_VALUE, 1}};
        for (int[] w : wrong) {
            DUE.is("23 no such numbers", x.loss(w[0], w[1], w[2]), -1);
        }
    }

    private static void count() {
        MastField x = new MastField();
        x.map(3, 5);
        x.shade(14, 9);
        x.mast(0, 100, 1, 1);
        x.caller(1);
        x.caller(2);
        x.call(0);
        x.call(1);
        x.tick();
        x.spot(4);
        x.feed(0, 0, 0, 0, 0);
        int[] due = {3, 5, 1, 2, 1, 1, 1, 0, 0, 0, 0, 0, 0, 0, 1, 15, 20, 0, -1, -1, 6, 2, 20, 1, 10, 3, -1, -1, -1, -1};
        for (int what = 0; what < due.length; what++) {
            DUE.is("24 count(" + what + ")", x.count(what), due[what]);
        }
        DUE.is("24 count(44)", x.count(44), 9);
        DUE.is("24 count(45)", x.count(45), -1);
        DUE.is("24 count(130)", x.count(130), -1);
        DUE.is("24 count(-1)", x.count(-1), -1);
        DUE.is("24 the least", x.count(Integer.MIN_VALUE), -1);
        DUE.is("24 the most", x.count(Integer.MAX_VALUE), -1);
    }
}
