/** Step (4) of a tick (Terms), and promise 18. */
final class ReportEdges {
    private final Sentences s;

    ReportEdges(Sentences s) {
        this.s = s;
    }

    void all() {
        ofTheMastItHasNow();
        ofWhom();
        atTheBar();
        theGreatest();
        oneMore();
        learnt();
        learntFromThenOn();
        learntByFewer();
        reports();
        reportsRefuse();
    }

    /** A caller at mast 0 of 50, then masts of other powers beside it. */
    private static MastField beside(String rules, int... powers) {
        MastField x = Worlds.heap(rules, 50);
        Worlds.inCall(x, 0, 0);
        for (int power : powers) {
            x.mast(0, power, 10, 1);
        }
        return x;
    }

    private void ofTheMastItHasNow() {
        s.says(0, "(4) A REPORT, for the MAST that it has now:");
        MastField x = beside("t1;n9", 60, 70);
        x.neighbour(0, 1, true);
        x.tick();
        s.is("handed over", x.look(0, 1), 1);
        s.is("for the one that it has now", x.reports(1, 2), 1);
        s.is("not for the one that it left", x.reports(0, 2), 0);
        MastField y = beside("t9;n9", 60, 70);
        y.neighbour(0, 1, true);
        y.tick();
        s.is("one that waits", y.reports(0, 2), 1);
        MastField z = beside("t1;n9", 60, 70);
        z.mast(0, 80, 10, 0);
        z.neighbour(0, 3, true);
        z.tick();
        s.is("held up", z.count(9), 1);
        s.is("one that is held up", z.reports(0, 2), 1);
    }

    private void ofWhom() {
        s.says(0, "of AWAKE MASTS that are no NEIGHBOURS of it, and not it,");
        MastField x = beside("t9;n9;h0", 90, 80, 70);
        x.wake(1, false);
        x.neighbour(0, 2, true);
        x.neighbour(3, 0, true);
        x.tick();
        s.is("asleep", x.reports(0, 1), 0);
        s.is("a neighbour", x.reports(0, 2), 0);
        s.is("one of which it is a neighbour", x.reports(0, 3), 1);
        MastField y = beside("n1;h0");
        y.tick();
        s.is("not it", y.about(0, 6), 0);
        s.is("none is learnt", y.count(17), 0);
    }

    private void atTheBar() {
        s.says(0, "those whose FIELD is not below its and h;");
        for (int h : new int[] {0, 1, 6, 49, 50}) {
            for (int more = h - 1; more <= h + 1; more++) {
                MastField x = beside("n9;h" + h, 50 + more);
                x.tick();
                s.is("h " + h + ", " + more + " more", x.reports(0, 1), more >= h ? 1 : 0);
            }
        }
        for (int power = 77; power <= 78; power++) {
            MastField x = Worlds.line("n9;h6");
            x.mast(0, 100, 0, 1);
            Worlds.inCall(x, 0, 4);
            x.mast(4, power, 10, 1);
            x.tick();
            s.is("against 100, 12 and 16 less: " + power, x.reports(0, 1), power == 78 ? 1 : 0);
        }
    }

    private void theGreatest() {
        s.says(0, "that of the greatest one (of like ones the lowest):");
        MastField x = beside("n9", 60, 70, 70, 65);
        x.tick();
        int[] due = {-1, 0, 1, 0, 0};
        for (int b = 0; b < 5; b++) {
            s.is("reports(0, " + b + ")", x.reports(0, b), due[b]);
        }
    }

    private void oneMore() {
        s.says(0, "REPORTS of this two are one more;");
        MastField x = beside("n99", 60);
        Worlds.inCall(x, 0, 0);
        s.is("the stronger one takes the second call", x.look(1, 1), 1);
        x.caller(0);
        s.is("and is full then", x.call(2), 0);
        x.tick();
        s.is("by two callers", x.reports(0, 1), 2);
        s.is("not the other way", x.reports(1, 0), 0);
        x.hang(2);
        x.tick();
        s.is("by one of them", x.reports(0, 1), 3);
        x.hang(0);
        x.tick();
        s.is("by none", x.reports(0, 1), 3);
    }

    private void learnt() {
        s.says(0, "at n it is a NEIGHBOUR from then on, REPORTS 0.");
        for (int n : new int[] {1, 2, 3, 98, 99}) {
            MastField x = beside("t9;n" + n, 60);
            Worlds.ticks(x, n - 1);
            s.is("n " + n + ": one less", x.about(0, 6), 0);
            s.is("n " + n + ": reports", x.reports(0, 1), n - 1);
            s.is("n " + n + ": count(17)", x.count(17), 0);
            x.tick();
            s.is("n " + n + ": learnt", x.about(0, 6), 2);
            s.is("n " + n + ": not the other way", x.about(1, 6), 0);
            s.is("n " + n + ": no reports", x.reports(0, 1), 0);
            s.is("n " + n + ": count(17)", x.count(17), 1);
            x.tick();
            s.is("n " + n + ": no more reports", x.reports(0, 1), 0);
        }
    }

    private void learntFromThenOn() {
        s.says(0, "it is a NEIGHBOUR from then on,");
        MastField x = beside("t1;n1");
        Worlds.inCall(x, 0, 0);
        x.mast(0, 60, 10, 2);
        x.tick();
        s.is("learnt by the first in (4), so its (3) came too early", x.look(0, 1), 0);
        s.is("the second hands over to it in the same tick", x.look(1, 1), 1);
        x.tick();
        s.is("the first in the next", x.look(0, 1), 1);
    }

    private void learntByFewer() {
        s.says(0, "at n it is a NEIGHBOUR");
        MastField x = beside("n50", 60);
        Worlds.ticks(x, 7);
        Worlds.told(x, "n5");
        s.is("not by the rules alone", x.about(0, 6), 0);
        s.is("reports", x.reports(0, 1), 7);
        x.tick();
        s.is("by the next report", x.about(0, 6), 2);
        s.is("reports", x.reports(0, 1), 0);
    }

    private void reports() {
        s.says(18, "REPORTS of MAST b by MAST a's callers;");
        MastField x = beside("n9", 60);
        s.is("none yet", x.reports(0, 1), 0);
        x.tick();
        s.is("reports(0, 1)", x.reports(0, 1), 1);
        s.is("reports(1, 0)", x.reports(1, 0), 0);
        x.wake(1, false);
        x.tick();
        s.is("of one asleep they stay", x.reports(0, 1), 1);
        x.neighbour(0, 1, true);
        s.is("of one that is told they stay", x.reports(0, 1), 1);
        x.neighbour(0, 1, false);
        s.is("and when it is told no more", x.reports(0, 1), 1);
    }

    private void reportsRefuse() {
        s.says(18, "NONE: no such two.");
        MastField x = beside("n9", 60);
        s.is("one and itself", x.reports(0, 0), -1);
        s.is("of -1", x.reports(0, -1), -1);
        s.is("by -1", x.reports(-1, 0), -1);
        s.is("of 2", x.reports(0, 2), -1);
        s.is("by 2", x.reports(2, 0), -1);
        s.is("of 8", x.reports(0, 8), -1);
        s.is("by 8", x.reports(8, 0), -1);
    }
}
