/** Promises 10 to 18: neighbours, callers, calls, ticks, look, about, reports. */
public final class CallTest {
    private static final Due DUE = new Due("CallTest");

    public static void main(String[] args) {
        neighbour();
        caller();
        move();
        call();
        callTakesTheStrongest();
        hang();
        tickNumbers();
        waitFollowsTheTarget();
        targetOfLikeOnes();
        barToTheNumber();
        leastToTheNumber();
        waitEndsWithTheCall();
        heldUp();
        twoPlaces();
        twoPlacesAtOneMast();
        noSecondPlace();
        backWithin();
        backOnlyFromTheLast();
        backOfThisCallOnly();
        causes();
        dropFreesTheOldPlaceFirst();
        asleepKeepsItsCalls();
        reports();
        reportsAfterHandOver();
        fewerReportsByNewRules();
        look();
        about();
        DUE.end();
    }

    /** A map of 10 by 2 with mast 0 in cell 0 and mast 1 in cell 9, of like power and a wide reach. */
    private static MastField twoMasts(String rules, int places0, int places1) {
        MastField x = new MastField();
        x.map(10, 2);
        DUE.is("rules " + rules, Due.tell(x, rules), 0);
        x.mast(0, 100, 10, places0);
        x.mast(9, 100, 10, places1);
        x.neighbour(0, 1, true);
        x.neighbour(1, 0, true);
        return x;
    }

    private static void ticks(MastField x, int n) {
        for (int i = 0; i < n; i++) {
            x.tick();
        }
    }

    private static void neighbour() {
        MastField x = new MastField();
        for (int m = 0; m < 8; m++) {
            x.mast(m, 10, 1, 1);
        }
        DUE.no("10 not one", x.neighbour(0, 1, false));
        DUE.yes("10 told", x.neighbour(0, 1, true));
        DUE.no("10 told again", x.neighbour(0, 1, true));
        DUE.yes("10 told", x.neighbour(0, 7, true));
        DUE.is("10 about(0, 6)", x.about(0, 6), 130);
        DUE.is("10 about(1, 6): not the other way", x.about(1, 6), 0);
        DUE.yes("10 not any more", x.neighbour(0, 1, false));
        DUE.is("10 about(0, 6)", x.about(0, 6), 128);
        int[][] wrong = {{0, 0}, {0, 8}, {8, 0}, {-1, 0}, {0, -1}, {0, 32}, {0, 33}};
        for (int[] w : wrong) {
            DUE.no("10 no such two", x.neighbour(w[0], w[1], true));
            DUE.no("10 no such two", x.neighbour(w[0], w[1], false));
        }
    }

    private static void caller() {
        MastField x = new MastField();
        DUE.is("11 no such cell", x.caller(64), -1);
        DUE.is("11 no such cell", x.caller(-1), -1);
        for (int k = 0; k < 20; k++) {
            DUE.is("11 caller", x.caller(63 - k), k);
            DUE.is("11 look(k, 0)", x.look(k, 0), 63 - k);
            DUE.is("11 look(k, 1)", x.look(k, 1), -1);
        }
        DUE.is("11 a 21st", x.caller(0), -1);
        DUE.is("11 count(3)", x.count(3), 20);
    }

    private static void move() {
        MastField x = new MastField();
        x.caller(5);
        DUE.yes("12 move(0, 63)", x.move(0, 63));
        DUE.is("12 look(0, 0)", x.look(0, 0), 63);
        DUE.yes("12 to where it is", x.move(0, 63));
        DUE.no("12 no such cell", x.move(0, 64));
        DUE.no("12 no such cell", x.move(0, -1));
        DUE.no("12 no such caller", x.move(1, 0));
        DUE.no("12 no such caller", x.move(-1, 0));
        DUE.is("12 look(0, 0)", x.look(0, 0), 63);
    }

    private static void call() {
        MastField x = new MastField();
        x.mast(0, 20, 10, 1);
        x.caller(0);
        x.caller(1);
        x.caller(0);
        DUE.is("13 no such caller", x.call(3), -1);
        DUE.is("13 no such caller", x.call(-1), -1);
        DUE.is("13 a field of 17 is below m", x.call(1), -2);
        DUE.is("13 a field of m", x.call(0), 0);
        DUE.is("13 in a call", x.call(0), -1);
        DUE.is("13 no free place", x.call(2), -2);
        DUE.is("13 count(6)", x.count(6), 2);
        DUE.is("13 count(4)", x.count(4), 1);
        DUE.is("13 about(0, 4)", x.about(0, 4), 1);
        x.hang(0);
        x.wake(0, false);
        DUE.is("13 asleep", x.call(0), -2);
        Due.tell(x, "m0");
        DUE.is("13 asleep, m 0", x.call(0), -2);
        x.wake(0, true);
        DUE.is("13 awake", x.call(0), 0);
    }

    private static void callTakesTheStrongest() {
        MastField x = new MastField();
        x.mast(0, 50, 10, 2);
        x.mast(0, 60, 10, 1);
        x.mast(0, 60, 10, 1);
        x.mast(0, 61, 10, 0);
        int[] due = {1, 2, 0, 0, -2};
        for (int k = 0; k < due.length; k++) {
            x.caller(3);
            DUE.is("13 call(" + k + ")", x.call(k), due[k]);
        }
    }

    private static void hang() {
        MastField x = twoMasts("t1;d9", 1, 1);
        x.caller(0);
        DUE.no("14 idle", x.hang(0));
        DUE.no("14 no such one", x.hang(1));
        DUE.no("14 no such one", x.hang(-1));
        x.call(0);
        x.move(0, 9);
        x.tick();
        DUE.is("14 two places", x.about(0, 4) + x.about(1, 4), 2);
        DUE.yes("14 hang(0)", x.hang(0));
        DUE.is("14 all places are free", x.about(0, 4) + x.about(1, 4), 0);
        int[] due = {9, -1, -1, 0, 0, 0};
        for (int what = 0; what < due.length; what++) {
            DUE.is("14 look(0, " + what + ")", x.look(0, what), due[what]);
        }
        DUE.no("14 hang(0) again", x.hang(0));
    }

    private static void tickNumbers() {
        MastField x = new MastField();
        for (int i = 1; i <= 10000; i++) {
            DUE.is("15 tick", x.tick(), i);
        }
        DUE.is("15 above 10000", x.tick(), -1);
        DUE.is("15 count(5)", x.count(5), 10000);
    }

    private static void waitFollowsTheTarget() {
        MastField x = twoMasts("t9", 2, 2);
        x.mast(7, 100, 10, 2);
        x.neighbour(0, 2, true);
        x.caller(0);
        x.call(0);
        x.move(0, 9);
        ticks(x, 3);
        DUE.is("15 wait", x.look(0, 3), 3);
        x.move(0, 7);
        x.tick();
        DUE.is("15 another target", x.look(0, 3), 1);
        x.tick();
        DUE.is("15 the same", x.look(0, 3), 2);
        x.move(0, 1);
        x.tick();
        DUE.is("15 no target", x.look(0, 3), 0);
        x.move(0, 7);
        x.tick();
        DUE.is("15 a target again", x.look(0, 3), 1);
        x.hang(0);
        x.move(0, 0);
        x.call(0);
        x.move(0, 7);
        x.tick();
        DUE.is("15 of this call", x.look(0, 3), 1);
        ticks(x, 7);
        DUE.is("15 wait", x.look(0, 3), 8);
        DUE.is("15 not yet", x.look(0, 1), 0);
        x.tick();
        DUE.is("15 handed over", x.look(0, 1), 2);
        DUE.is("15 wait", x.look(0, 3), 0);
    }

    private static void targetOfLikeOnes() {
        MastField x = new MastField();
        x.map(10, 2);
        Due.tell(x, "t1;h27");
        x.mast(0, 100, 10, 1);
        x.mast(9, 100, 10, 1);
        x.mast(9, 100, 10, 1);
        x.neighbour(0, 2, true);
        x.neighbour(0, 1, true);
        x.caller(0);
        x.call(0);
        x.move(0, 8);
        x.tick();
        DUE.is("15 below the bar", x.look(0, 1), 0);
        x.move(0, 9);
        x.tick();
        DUE.is("15 at the bar, the lowest", x.look(0, 1), 1);
    }

    private static void barToTheNumber() {
        for (int more = 0; more <= 12; more++) {
            MastField x = new MastField();
            Due.tell(x, "t9;n9;h6");
            x.mast(0, 50, 10, 1);
            x.mast(0, 50 + more, 10, 0);
            x.caller(0);
            x.call(0);
            x.tick();
            DUE.is("18 a report of one with " + more + " more", x.reports(0, 1), more >= 6 ? 1 : 0);
            x.neighbour(0, 1, true);
            x.tick();
            DUE.is("15 a target with " + more + " more", x.look(0, 3), more >= 6 ? 1 : 0);
        }
    }

    private static void leastToTheNumber() {
        MastField x = new MastField();
        x.mast(0, 23, 10, 1);
        x.caller(0);
        x.call(0);
        x.move(0, 1);
        x.tick();
        DUE.is("15 a field of m keeps its call", x.look(0, 1), 0);
        x.move(0, 2);
        x.tick();
        DUE.is("15 a field below drops it", x.look(0, 1), -1);
    }

    private static void waitEndsWithTheCall() {
        MastField x = twoMasts("t9", 1, 0);
        x.caller(0);
        x.call(0);
        x.move(0, 9);
        ticks(x, 3);
        x.hang(0);
        DUE.is("16 wait after a call that hung up", x.look(0, 3), 0);
        x.move(0, 0);
        x.call(0);
        x.move(0, 9);
        DUE.is("16 wait before the first tick of a call", x.look(0, 3), 0);
        ticks(x, 3);
        DUE.is("15 wait counts from the call on", x.look(0, 3), 3);
        x.wake(0, false);
        x.tick();
        DUE.is("16 wait after a call that was dropped", x.look(0, 3), 0);
    }

    private static void heldUp() {
        MastField x = twoMasts("t2;d0", 1, 0);
        x.caller(0);
        x.call(0);
        x.move(0, 9);
        ticks(x, 4);
        DUE.is("15 held up", x.count(9), 3);
        DUE.is("15 wait goes on", x.look(0, 3), 4);
        DUE.is("15 handed over", x.count(7), 0);
        DUE.is("15 its mast", x.look(0, 1), 0);
    }

    private static void twoPlaces() {
        for (int d = 0; d <= 9; d++) {
            MastField x = twoMasts("t1;d" + d, 1, 1);
            x.caller(0);
            x.call(0);
            x.move(0, 9);
            x.tick();
            DUE.is("15 d " + d + ": its mast", x.look(0, 1), 1);
            for (int after = 0; after < 10; after++) {
                boolean holds = after < d;
                DUE.is("15 d " + d + ": old after " + after, x.look(0, 2), holds ? 0 : -1);
                DUE.is("15 d " + d + ": taken after " + after, x.about(0, 4), holds ? 1 : 0);
                x.tick();
            }
        }
    }

    /** Back at the mast of its old place it takes a place of its own there, if one is free. */
    private static void twoPlacesAtOneMast() {
        MastField x = twoMasts("t1;d5", 1, 1);
        x.caller(0);
        x.call(0);
        x.move(0, 9);
        x.tick();
        x.move(0, 0);
        x.tick();
        DUE.is("15 its own old place is not free", x.count(9), 1);
        MastField y = twoMasts("t1;d5", 2, 1);
        y.caller(0);
        y.call(0);
        y.move(0, 9);
        y.tick();
        y.move(0, 0);
        y.tick();
        DUE.is("15 its mast", y.look(0, 1), 0);
        DUE.is("15 its old place", y.look(0, 2), 0);
        DUE.is("15 both taken", y.about(0, 4), 2);
        DUE.is("15 the left one free at once", y.about(1, 4), 0);
        ticks(y, 3);
        DUE.is("15 still two", y.about(0, 4), 2);
        y.tick();
        DUE.is("15 one", y.about(0, 4), 1);
        y.hang(0);
        DUE.is("15 none", y.about(0, 4), 0);
    }

    private static void noSecondPlace() {
        MastField x = twoMasts("t1;d3", 1, 1);
        x.mast(5, 200, 0, 1);
        x.neighbour(1, 2, true);
        x.caller(0);
        x.wake(2, false);
        x.call(0);
        x.move(0, 9);
        x.tick();
        x.wake(2, true);
        x.move(0, 5);
        x.tick();
        DUE.is("15 handed on", x.look(0, 1), 2);
        DUE.is("15 the oldest place stays", x.look(0, 2), 0);
        DUE.is("15 the left one is free at once", x.about(1, 4), 0);
        x.tick();
        DUE.is("15 till the first hand-over's tick", x.look(0, 2), 0);
        x.tick();
        DUE.is("15 free then", x.look(0, 2), -1);
    }

    private static void backWithin() {
        for (int w = 0; w <= 6; w++) {
            MastField x = twoMasts("t1;d0;w" + w, 1, 1);
            x.caller(0);
            x.call(0);
            x.move(0, 9);
            ticks(x, 4);
            x.move(0, 0);
            x.tick();
            DUE.is("15 two hand-overs", x.count(7), 2);
            DUE.is("15 back after 4 ticks, w " + w, x.count(8), w >= 4 ? 1 : 0);
            DUE.is("15 look(0, 4)", x.look(0, 4), 2);
        }
    }

    private static void backOnlyFromTheLast() {
        MastField x = twoMasts("t1;d0", 3, 3);
        x.mast(14, 100, 10, 3);
        x.neighbour(1, 2, true);
        x.neighbour(2, 0, true);
        x.caller(0);
        x.call(0);
        x.move(0, 9);
        x.tick();
        x.move(0, 14);
        x.tick();
        x.move(0, 0);
        x.tick();
        DUE.is("15 three hand-overs in a ring", x.count(7), 3);
        DUE.is("15 none is back", x.count(8), 0);
        x.hang(0);
        x.move(0, 14);
        DUE.is("15 a new call", x.call(0), 2);
        x.move(0, 0);
        x.tick();
        DUE.is("15 handed over", x.count(7), 4);
        DUE.is("15 of this call only", x.count(8), 0);
    }

    private static void backOfThisCallOnly() {
        MastField x = twoMasts("t1;d0", 1, 1);
        x.caller(0);
        x.call(0);
        x.move(0, 9);
        x.tick();
        DUE.is("15 from 0 to 1", x.look(0, 1), 1);
        x.hang(0);
        DUE.is("15 a new call", x.call(0), 1);
        x.move(0, 0);
        x.tick();
        DUE.is("15 from 1 to 0", x.look(0, 1), 0);
        DUE.is("15 the hand-over to 1 was another call's", x.count(8), 0);
        x.move(0, 9);
        x.tick();
        DUE.is("15 this one is back", x.count(8), 1);
    }

    private static void causes() {
        for (int cause = 1; cause <= 4; cause++) {
            MastField x = new MastField();
            x.map(10, 2);
            x.mast(0, 50, 0, 1);
            x.mast(9, cause == 1 ? 19 : 20, 0, cause == 2 ? 0 : 1);
            x.mast(9, 50, 0, 0);
            x.wake(2, cause == 2);
            x.neighbour(0, 2, true);
            if (cause == 4) {
                x.neighbour(0, 1, true);
            }
            x.neighbour(1, 0, true);
            x.caller(0);
            x.call(0);
            x.move(0, 9);
            x.tick();
            DUE.is("15 cause " + cause, x.look(0, 5), cause);
            DUE.is("15 idle", x.look(0, 1), -1);
            DUE.is("15 its place is free", x.about(0, 4), 0);
            for (int c = 1; c <= 4; c++) {
                DUE.is("15 count of cause " + c, x.count(9 + c), c == cause ? 1 : 0);
            }
            DUE.is("15 no report after a drop", x.reports(0, 1), 0);
            x.wake(0, false);
            x.wake(1, false);
            x.wake(2, false);
            DUE.is("15 blocked", x.call(0), -2);
            DUE.is("15 a blocked one is no call", x.look(0, 5), cause);
            x.wake(0, true);
            x.move(0, 0);
            DUE.is("15 a new call", x.call(0), 0);
            DUE.is("15 it was not dropped", x.look(0, 5), 0);
            x.hang(0);
            DUE.is("15 nor when it hung up", x.look(0, 5), 0);
        }
    }

    /** "All its PLACES are free: CAUSE ..": the old place counts as a free one when the cause is told. */
    private static void dropFreesTheOldPlaceFirst() {
        MastField x = twoMasts("t1;d9", 1, 1);
        x.caller(0);
        x.call(0);
        x.move(0, 9);
        x.tick();
        x.wake(1, false);
        x.move(0, 0);
        x.tick();
        DUE.is("15 cause", x.look(0, 5), 4);
        DUE.is("15 no place is taken", x.about(0, 4) + x.about(1, 4), 0);
    }

    private static void asleepKeepsItsCalls() {
        MastField x = twoMasts("t1;d9", 2, 2);
        x.caller(0);
        x.caller(0);
        x.call(0);
        x.call(1);
        x.wake(0, false);
        DUE.is("15 asleep, it keeps its calls", x.about(0, 4), 2);
        DUE.is("15 look(0, 1)", x.look(0, 1), 0);
        x.wake(0, true);
        x.tick();
        DUE.is("15 awake again before the tick", x.about(0, 4), 2);
        x.move(0, 9);
        x.tick();
        x.wake(0, false);
        x.tick();
        DUE.is("15 the old place stays at a mast asleep", x.look(0, 2), 0);
        DUE.is("15 its call is dropped", x.look(1, 1), -1);
        DUE.is("15 the old place is taken", x.about(0, 4), 1);
        DUE.is("15 in a call", x.count(4), 1);
    }

    private static void reports() {
        MastField x = new MastField();
        x.map(10, 2);
        Due.tell(x, "n2;h3");
        x.mast(0, 100, 10, 5);
        x.mast(9, 100, 10, 5);
        x.mast(8, 97, 10, 5);
        x.caller(0);
        x.call(0);
        x.tick();
        DUE.is("18 none below the bar", x.reports(0, 1) + x.reports(0, 2), 0);
        x.move(0, 8);
        x.tick();
        DUE.is("18 of like ones the lowest", x.reports(0, 1), 1);
        DUE.is("18 the greatest alone", x.reports(0, 2), 0);
        DUE.is("18 not the other way", x.reports(1, 0), 0);
        x.tick();
        DUE.is("18 learnt at n", x.about(0, 6), 2);
        DUE.is("18 reports 0", x.reports(0, 1), 0);
        DUE.is("18 count(17)", x.count(17), 1);
        x.tick();
        DUE.is("18 no neighbour is reported", x.reports(0, 2), 1);
        x.neighbour(0, 1, false);
        DUE.is("18 count(17) stays", x.count(17), 1);
        int[][] wrong = {{0, 0}, {0, 3}, {3, 0}, {-1, 0}, {0, -1}};
        for (int[] w : wrong) {
            DUE.is("18 no such two", x.reports(w[0], w[1]), -1);
        }
    }

    private static void reportsAfterHandOver() {
        MastField x = twoMasts("t1;n9;h0", 1, 1);
        x.neighbour(1, 0, false);
        x.mast(9, 100, 10, 1);
        x.caller(0);
        x.call(0);
        x.move(0, 9);
        x.tick();
        DUE.is("15 handed over", x.look(0, 1), 1);
        DUE.is("18 for the mast that it has now", x.reports(1, 2), 1);
        DUE.is("18 not for the one it left", x.reports(0, 2), 0);
    }

    private static void fewerReportsByNewRules() {
        MastField x = new MastField();
        x.map(10, 2);
        Due.tell(x, "n50");
        x.mast(0, 100, 10, 5);
        x.mast(9, 100, 10, 5);
        x.caller(0);
        x.call(0);
        x.move(0, 9);
        ticks(x, 7);
        DUE.is("18 reports", x.reports(0, 1), 7);
        Due.tell(x, "n5");
        DUE.is("18 not by the rules alone", x.about(0, 6), 0);
        x.tick();
        DUE.is("18 by the next report", x.about(0, 6), 2);
    }

    private static void look() {
        MastField x = twoMasts("t1;d3", 1, 1);
        x.caller(0);
        x.call(0);
        x.move(0, 9);
        x.tick();
        int[] due = {9, 1, 0, 0, 1, 0, -1, -1};
        for (int what = 0; what < due.length; what++) {
            DUE.is("16 look(0, " + what + ")", x.look(0, what), due[what]);
        }
        DUE.is("16 look(0, -1)", x.look(0, -1), -1);
        DUE.is("16 look(1, 0)", x.look(1, 0), -1);
        DUE.is("16 look(-1, 0)", x.look(-1, 0), -1);
        DUE.is("16 look(20, 0)", x.look(20, 0), -1);
    }

    private static void about() {
        MastField x = new MastField();
        x.mast(27, 26, 1, 3);
        int[] due = {27, 26, 1, 3, 0, 1, 0, 9, -1};
        for (int what = 0; what < due.length; what++) {
            DUE.is("17 about(0, " + what + ")", x.about(0, what), due[what]);
        }
        Due.tell(x, "m16");
        DUE.is("17 cells by another m", x.about(0, 7), 25);
        x.wake(0, false);
        DUE.is("17 asleep: no cell", x.about(0, 7), 0);
        DUE.is("17 asleep", x.about(0, 5), 0);
        DUE.is("17 about(0, -1)", x.about(0, -1), -1);
        DUE.is("17 about(1, 0)", x.about(1, 0), -1);
        DUE.is("17 about(-1, 0)", x.about(-1, 0), -1);
        DUE.is("17 about(8, 0)", x.about(8, 0), -1);
    }
}
