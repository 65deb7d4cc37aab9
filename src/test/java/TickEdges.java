/** A tick with its steps (1) to (3) (Terms), and promise 15. */
final class TickEdges {
    private final Sentences s;

    TickEdges(Sentences s) {
        this.s = s;
    }

    void all() {
        numbered();
        byNumbers();
        oldPlaceTill();
        belowLeast();
        asleepIsDropped();
        allPlacesFree();
        causeOne();
        causeTwo();
        causeThree();
        causeFour();
        restNotDone();
        targetAtTheBar();
        targetIsAnAwakeNeighbour();
        targetIsTheGreatest();
        noTargetNoWait();
        waitOneMore();
        waitOfThisCall();
        waitTillT();
        waitAboveT();
        oneFreePlace();
        leftPlaceIsFree();
        oldPlaceStill();
        heldTillD();
        handedOverWaitIsZero();
        backWithin();
        backFromTheLast();
        backOfThisCall();
        heldUp();
        heldUpTillFree();
        tick();
        tickRefuses();
    }

    private void numbered() {
        s.says(0, "A TICK (they are numbered from 1):");
        MastField x = new MastField();
        s.is("none yet", x.count(5), 0);
        s.is("the first", x.tick(), 1);
        s.is("the second", x.tick(), 2);
        x.map(2, 2);
        s.is("the first of another map", x.tick(), 1);
    }

    /** A place that one caller's tick frees is free for callers of higher numbers in the same tick, for lower ones not. */
    private void byNumbers() {
        s.says(0, "CALLERS in a CALL by numbers, each:");
        for (int holder = 0; holder < 2; holder++) {
            MastField x = Worlds.pair("t1;d2", 1, 2);
            int seeker = 1 - holder;
            x.caller(0);
            x.caller(0);
            x.move(seeker, 9);
            x.call(holder);
            x.call(seeker);
            x.move(holder, 9);
            x.move(seeker, 0);
            x.tick();
            s.is("an old place is held", x.look(holder, 2), 0);
            x.tick();
            s.is("so the other waits", x.look(seeker, 1), 1);
            x.tick();
            s.is("holder " + holder + ": the other in the tick that frees it", x.look(seeker, 1), holder == 0 ? 0 : 1);
            s.is("held up", x.count(9), holder == 0 ? 2 : 3);
            x.tick();
            s.is("the other one tick later", x.look(seeker, 1), 0);
        }
    }

    private void oldPlaceTill() {
        s.says(0, "(1) If it holds an old PLACE and this TICK is not ahead of the one till which it does, that is free.");
        for (int d = 1; d <= 9; d++) {
            MastField x = Worlds.pair("t1;d" + d, 1, 1);
            Worlds.inCall(x, 0, 9);
            Worlds.ticks(x, d);
            s.is("d " + d + ", a tick ahead: held", x.look(0, 2), 0);
            s.is("d " + d + ", a tick ahead: taken", x.about(0, 4), 1);
            x.tick();
            s.is("d " + d + ", in that tick: none", x.look(0, 2), -1);
            s.is("d " + d + ", in that tick: free", x.about(0, 4), 0);
            x.tick();
            s.is("not freed twice", x.about(0, 4), 0);
            s.is("the new one stays", x.about(1, 4), 1);
        }
        MastField x = Worlds.pair("t1;d3", 1, 1);
        Worlds.inCall(x, 0, 9);
        x.tick();
        x.wake(0, false);
        Worlds.ticks(x, 2);
        s.is("at a mast asleep it is held as long", x.look(0, 2), 0);
        x.tick();
        s.is("and free then", x.about(0, 4), 0);
    }

    private void belowLeast() {
        s.says(0, "(2) If the FIELD of its MAST is below m");
        for (int m : new int[] {0, 1, 20, 100}) {
            MastField x = Worlds.heap("m" + m, m + 3);
            Worlds.inCall(x, 0, 1);
            x.tick();
            s.is("m " + m + ": a field of m", x.look(0, 1), 0);
            x.shade(1, 1);
            s.is("m " + m + ": not ahead of the tick", x.look(0, 1), 0);
            x.tick();
            s.is("m " + m + ": one below", x.look(0, 1), -1);
        }
        MastField x = Worlds.heap("m20", 50);
        Worlds.inCall(x, 0, 0);
        Worlds.told(x, "m51");
        x.tick();
        s.is("by other rules", x.look(0, 1), -1);
    }

    private void asleepIsDropped() {
        s.says(0, "(or it is asleep): the CALL is DROPPED,");
        MastField x = Worlds.heap("m0", 50);
        Worlds.inCall(x, 0, 0);
        x.wake(0, false);
        x.tick();
        s.is("idle", x.look(0, 1), -1);
        s.is("those in a call", x.count(4), 0);
        s.is("dropped", x.count(10), 1);
        x.tick();
        s.is("once", x.count(10), 1);
    }

    private void allPlacesFree() {
        s.says(0, "all its PLACES are free:");
        MastField x = Worlds.pair("t1;d9", 1, 1);
        Worlds.inCall(x, 0, 9);
        x.tick();
        x.wake(1, false);
        x.tick();
        s.is("the old one", x.about(0, 4), 0);
        s.is("the new one", x.about(1, 4), 0);
        s.is("none is held", x.look(0, 2), -1);
        s.is("its own old place counts as free when the cause is asked", x.look(0, 5), 4);
        MastField y = Worlds.pair("t1;d9", 2, 2);
        Worlds.inCall(y, 0, 9);
        Worlds.inCall(y, 9, 9);
        y.tick();
        y.move(1, 0);
        y.wake(1, false);
        y.tick();
        s.is("of the first one", y.about(0, 4) + y.about(1, 4), 0);
        s.is("dropped", y.count(13), 2);
    }

    /** A line on which a call of mast 0 (neighbours as told) is lost in cell 9, where the other masts are. */
    private MastField lost(int neighbours, int... powersAndPlaces) {
        MastField x = Worlds.line("m20;t1;n1;h0");
        x.mast(0, 50, 0, 1);
        Worlds.inCall(x, 0, 9);
        for (int i = 0; i < powersAndPlaces.length; i += 2) {
            x.mast(9, powersAndPlaces[i], 0, powersAndPlaces[i + 1]);
        }
        for (int b = 1; b < 8; b++) {
            x.neighbour(0, b, (neighbours >> b & 1) == 1);
            x.neighbour(b, 0, true);
        }
        return x;
    }

    private void cause(int due, MastField x) {
        x.tick();
        s.is("look(0, 5)", x.look(0, 5), due);
        for (int c = 1; c <= 4; c++) {
            s.is("count(" + (9 + c) + ")", x.count(9 + c), c == due ? 1 : 0);
        }
        s.is("its place is free", x.about(0, 4), 0);
    }

    private void causeOne() {
        s.says(0, "CAUSE 1 if no other MAST has a FIELD of m or more;");
        cause(1, lost(0));
        cause(1, lost(2, 19, 1));
        cause(1, lost(6, 19, 1, 0, 20));
        MastField x = lost(2, 200, 1);
        x.wake(1, false);
        cause(1, x);
        MastField y = Worlds.heap("m0", 200);
        Worlds.inCall(y, 0, 0);
        y.wake(0, false);
        cause(1, y);
    }

    private void causeTwo() {
        s.says(0, "2 if of these none has a free PLACE;");
        cause(2, lost(0, 20, 0));
        cause(2, lost(2, 20, 0));
        cause(2, lost(6, 20, 0, 19, 1));
        cause(2, lost(0, 200, 0, 200, 0));
        MastField x = lost(2, 30, 1);
        x.caller(9);
        s.is("the one place is taken", x.call(1), 1);
        cause(2, x);
    }

    private void causeThree() {
        s.says(0, "3 if of these with a free PLACE none is a NEIGHBOUR;");
        cause(3, lost(0, 20, 1));
        cause(3, lost(4, 20, 1, 200, 0));
        cause(3, lost(4, 20, 1, 19, 1));
        MastField x = lost(4, 30, 1, 30, 1);
        x.wake(2, false);
        cause(3, x);
    }

    private void causeFour() {
        s.says(0, "else 4.");
        cause(4, lost(2, 20, 1));
        cause(4, lost(4, 200, 1, 20, 1));
        cause(4, lost(4, 200, 0, 20, 20));
        cause(4, lost(6, 200, 0, 20, 1));
    }

    private void restNotDone() {
        s.says(0, "(3) and (4) are not done then.");
        MastField x = lost(2, 60, 1, 60, 1);
        x.tick();
        s.is("dropped", x.count(13), 1);
        s.is("not handed over", x.count(7), 0);
        s.is("no place is taken", x.about(1, 4), 0);
        s.is("no wait", x.look(0, 3), 0);
        s.is("not reported", x.reports(0, 2), 0);
        s.is("not learnt", x.about(0, 6), 2);
        MastField y = lost(2, 60, 0);
        y.tick();
        s.is("not held up", y.count(9), 0);
    }

    private void targetAtTheBar() {
        s.says(0, "(3) THE TARGET: of NEIGHBOURS (AWAKE) whose FIELD is not below that of its MAST and h");
        for (int h : new int[] {0, 1, 6, 49, 50}) {
            for (int more = Math.max(0, h - 1); more <= h + 1; more++) {
                MastField x = Worlds.heap("t9;h" + h, 50);
                Worlds.inCall(x, 0, 0);
                x.mast(0, 50 + more, 10, 1);
                x.neighbour(0, 1, true);
                x.tick();
                s.is("h " + h + ", " + more + " more", x.look(0, 3), more >= h ? 1 : 0);
            }
        }
        MastField x = Worlds.heap("t9;h0", 50, 49);
        x.neighbour(0, 1, true);
        Worlds.inCall(x, 0, 0);
        x.tick();
        s.is("h 0, one below", x.look(0, 3), 0);
    }

    private void targetIsAnAwakeNeighbour() {
        s.says(0, "of NEIGHBOURS (AWAKE)");
        MastField x = Worlds.heap("t9;n99", 50);
        Worlds.inCall(x, 0, 0);
        x.mast(0, 90, 10, 1);
        x.neighbour(1, 0, true);
        x.tick();
        s.is("one of which it is a neighbour", x.look(0, 3), 0);
        x.neighbour(0, 1, true);
        x.tick();
        s.is("a neighbour", x.look(0, 3), 1);
        x.wake(1, false);
        x.tick();
        s.is("asleep", x.look(0, 3), 0);
        x.wake(1, true);
        x.tick();
        s.is("awake again", x.look(0, 3), 1);
        x.neighbour(0, 1, false);
        x.tick();
        s.is("a neighbour no more", x.look(0, 3), 0);
    }

    private void targetIsTheGreatest() {
        s.says(0, "that of the greatest one, of like ones the lowest.");
        MastField x = Worlds.heap("t1;d0", 50);
        Worlds.inCall(x, 0, 0);
        for (int power : new int[] {60, 70, 80, 80, 200}) {
            x.mast(0, power, 10, power == 200 ? 0 : 1);
        }
        for (int b = 4; b >= 1; b--) {
            x.neighbour(0, b, true);
        }
        x.tick();
        s.is("the greatest, of like ones the lowest", x.look(0, 1), 3);
        MastField y = Worlds.heap("t1", 50);
        Worlds.inCall(y, 0, 0);
        y.mast(0, 80, 10, 0);
        y.mast(0, 70, 10, 1);
        y.neighbour(0, 1, true);
        y.neighbour(0, 2, true);
        y.tick();
        s.is("the greatest without a place stays the target", y.look(0, 1), 0);
        s.is("held up", y.count(9), 1);
        MastField z = Worlds.line("t1");
        z.mast(9, 50, 10, 1);
        Worlds.inCall(z, 9, 9);
        z.mast(0, 120, 0, 5);
        z.mast(0, 90, 10, 1);
        z.neighbour(0, 1, true);
        z.neighbour(0, 2, true);
        z.tick();
        s.is("120, 27 and 36 less, against 90, 27 less", z.look(0, 1), 2);
    }

    private void noTargetNoWait() {
        s.says(0, "Without one its WAIT is 0.");
        MastField x = Worlds.pair("t9", 1, 1);
        Worlds.inCall(x, 0, 0);
        x.tick();
        s.is("from the begin", x.look(0, 3), 0);
        x.move(0, 9);
        Worlds.ticks(x, 8);
        s.is("wait", x.look(0, 3), 8);
        x.move(0, 0);
        s.is("not ahead of the tick", x.look(0, 3), 8);
        x.tick();
        s.is("without one", x.look(0, 3), 0);
    }

    private void waitOneMore() {
        s.says(0, "Else WAIT is one more if THE TARGET was the same in the TICK before");
        s.says(0, "else 1;");
        MastField x = Worlds.pair("t9", 1, 1);
        x.mast(7, 100, 10, 1);
        x.neighbour(0, 2, true);
        Worlds.inCall(x, 0, 9);
        for (int i = 1; i <= 4; i++) {
            x.tick();
            s.is("the same target", x.look(0, 3), i);
        }
        x.move(0, 7);
        x.tick();
        s.is("another", x.look(0, 3), 1);
        x.tick();
        s.is("the same", x.look(0, 3), 2);
        x.move(0, 9);
        x.tick();
        s.is("the first one again", x.look(0, 3), 1);
        x.move(0, 0);
        x.tick();
        x.move(0, 9);
        x.tick();
        s.is("the same, but not in the tick before", x.look(0, 3), 1);
    }

    private void waitOfThisCall() {
        s.says(0, "(of this CALL, with this MAST),");
        MastField x = Worlds.pair("t9", 1, 1);
        Worlds.inCall(x, 0, 9);
        Worlds.ticks(x, 5);
        x.hang(0);
        x.move(0, 0);
        x.call(0);
        x.move(0, 9);
        s.is("at the begin of another call", x.look(0, 3), 0);
        x.tick();
        s.is("the same target, of another call", x.look(0, 3), 1);
        x.wake(0, false);
        x.tick();
        x.wake(0, true);
        x.move(0, 0);
        x.call(0);
        x.move(0, 9);
        x.tick();
        s.is("the same target, after a drop", x.look(0, 3), 1);
        MastField y = Worlds.pair("t2;h0;d0", 1, 1);
        y.mast(9, 100, 10, 1);
        y.neighbour(1, 2, true);
        Worlds.inCall(y, 0, 9);
        Worlds.ticks(y, 2);
        s.is("handed over", y.look(0, 1), 1);
        y.tick();
        s.is("with the new mast", y.look(0, 3), 1);
        s.is("not yet", y.look(0, 1), 1);
        y.tick();
        s.is("handed on", y.look(0, 1), 2);
    }

    private void waitTillT() {
        s.says(0, "if it is t or more:");
        for (int t = 1; t <= 9; t++) {
            MastField x = Worlds.pair("t" + t, 1, 1);
            Worlds.inCall(x, 0, 9);
            Worlds.ticks(x, t - 1);
            s.is("t " + t + ": a tick less", x.look(0, 1), 0);
            s.is("t " + t + ": wait", x.look(0, 3), t - 1);
            x.tick();
            s.is("t " + t + ": handed over", x.look(0, 1), 1);
            s.is("t " + t + ": count(7)", x.count(7), 1);
        }
    }

    private void waitAboveT() {
        s.says(0, "if it is t or more:");
        MastField x = Worlds.pair("t9", 1, 1);
        Worlds.inCall(x, 0, 9);
        Worlds.ticks(x, 5);
        Worlds.told(x, "t2");
        s.is("not by the rules alone", x.look(0, 1), 0);
        x.tick();
        s.is("more than t", x.look(0, 1), 1);
    }

    private void oneFreePlace() {
        s.says(0, "with a free PLACE at THE TARGET the CALL is HANDED OVER: it takes that;");
        for (int places = 0; places <= 3; places++) {
            MastField x = Worlds.pair("t1;d0", 1, places);
            Worlds.inCall(x, 0, 9);
            for (int i = 1; i < places; i++) {
                Worlds.inCall(x, 9, 9);
            }
            x.tick();
            s.is("of " + places + " places one is free", x.look(0, 1), places > 0 ? 1 : 0);
            s.is("the places that are taken", x.about(1, 4), places);
            s.is("hand-overs of this call", x.look(0, 4), places > 0 ? 1 : 0);
            s.is("count(7)", x.count(7), places > 0 ? 1 : 0);
        }
        MastField x = Worlds.pair("t1;d9", 1, 1);
        Worlds.inCall(x, 0, 9);
        x.tick();
        x.move(0, 0);
        x.tick();
        s.is("its own old place is not free", x.look(0, 1), 1);
        s.is("held up", x.count(9), 1);
    }

    private void leftPlaceIsFree() {
        s.says(0, "if d is 0,");
        s.says(0, "the PLACE at the MAST that it leaves is free at once,");
        MastField x = Worlds.pair("t1;d0", 1, 1);
        Worlds.inCall(x, 0, 9);
        x.tick();
        s.is("handed over", x.look(0, 1), 1);
        s.is("no old place", x.look(0, 2), -1);
        s.is("the one that it left is free", x.about(0, 4), 0);
        x.tick();
        s.is("and not freed twice", x.about(0, 4), 0);
        MastField y = Worlds.pair("t1;d0", 1, 1);
        Worlds.inCall(y, 0, 9);
        Worlds.inCall(y, 9, 0);
        y.tick();
        s.is("two can't change places", y.count(9), 2);
        MastField z = Worlds.pair("t1;d0", 1, 2);
        Worlds.inCall(z, 0, 9);
        Worlds.inCall(z, 9, 0);
        z.tick();
        s.is("at once: for the next in the same tick", z.count(7), 2);
    }

    /** From mast 0 to 1 in tick 1 and on to mast 2 in tick 2. */
    private static MastField handedOnTwice(String rules, String later) {
        MastField x = Worlds.pair(rules, 1, 1);
        x.mast(9, 200, 10, 1);
        x.wake(2, false);
        x.neighbour(1, 2, true);
        Worlds.inCall(x, 0, 9);
        x.tick();
        x.wake(2, true);
        Worlds.told(x, later);
        x.tick();
        return x;
    }

    private void oldPlaceStill() {
        s.says(0, "or it holds an old PLACE still,");
        for (String later : new String[] {"t1;d4", "t1;d9", "t1;d0"}) {
            MastField x = handedOnTwice("t1;d4", later);
            s.is("handed on", x.look(0, 1), 2);
            s.is("the old one stays", x.look(0, 2), 0);
            s.is("it is taken", x.about(0, 4), 1);
            s.is("the one between is free at once", x.about(1, 4), 0);
            Worlds.ticks(x, 2);
            s.is("till the tick of the first hand-over and d", x.look(0, 2), 0);
            x.tick();
            s.is("free then", x.look(0, 2), -1);
            s.is("free then", x.about(0, 4), 0);
        }
        MastField x = handedOnTwice("t1;d1", "t1;d1");
        s.is("one that is free in this tick is not held still", x.look(0, 2), 1);
        s.is("the first is free", x.about(0, 4), 0);
        s.is("the second is held", x.about(1, 4), 1);
    }

    private void heldTillD() {
        s.says(0, "else it holds that till this TICK and d;");
        MastField x = Worlds.pair("t1;d3", 1, 1);
        Worlds.inCall(x, 0, 9);
        Worlds.ticks(x, 1);
        Worlds.told(x, "t1;d9");
        Worlds.ticks(x, 2);
        s.is("by the d of the hand-over: held", x.look(0, 2), 0);
        x.tick();
        s.is("by the d of the hand-over: free", x.look(0, 2), -1);
        MastField y = Worlds.pair("t1;d3", 1, 1);
        y.caller(0);
        Worlds.ticks(y, 7);
        y.call(0);
        y.move(0, 9);
        y.tick();
        Worlds.ticks(y, 2);
        s.is("handed over in tick 8: held in 10", y.look(0, 2), 0);
        y.tick();
        s.is("free in 11", y.look(0, 2), -1);
        MastField z = Worlds.pair("t1;d9", 1, 1);
        Worlds.inCall(z, 0, 9);
        z.tick();
        Worlds.told(z, "d0");
        z.tick();
        s.is("by another d it is held still", z.look(0, 2), 0);
    }

    private void handedOverWaitIsZero() {
        s.says(0, "WAIT is 0;");
        MastField x = Worlds.pair("t3", 1, 1);
        Worlds.inCall(x, 0, 9);
        Worlds.ticks(x, 3);
        s.is("handed over", x.look(0, 1), 1);
        s.is("wait", x.look(0, 3), 0);
    }

    private void backWithin() {
        s.says(0, "it counts as BACK if THE TARGET is the MAST from which this CALL was HANDED OVER last,"
            + " not more than w TICKS ago.");
        for (int w : new int[] {0, 1, 2, 50, 99}) {
            for (int later = Math.max(1, w - 1); later <= w + 1; later++) {
                MastField x = Worlds.pair("t1;d0;w" + w, 1, 1);
                Worlds.ticks(x, 120);
                Worlds.inCall(x, 0, 9);
                Worlds.ticks(x, later);
                x.move(0, 0);
                x.tick();
                s.is("handed over", x.count(7), 2);
                s.is("w " + w + ", " + later + " ticks later", x.count(8), later <= w ? 1 : 0);
            }
        }
    }

    private void backFromTheLast() {
        s.says(0, "the MAST from which this CALL was HANDED OVER last,");
        MastField x = Worlds.pair("t1;d0", 1, 1);
        x.mast(5, 150, 0, 1);
        x.wake(2, false);
        x.neighbour(1, 2, true);
        x.neighbour(2, 0, true);
        Worlds.inCall(x, 0, 9);
        x.tick();
        x.wake(2, true);
        x.move(0, 5);
        x.tick();
        s.is("from 1 to 2", x.look(0, 1), 2);
        x.wake(1, false);
        x.move(0, 0);
        x.shade(0, 20);
        x.shade(1, 20);
        x.shade(2, 20);
        x.tick();
        s.is("from 2 to 0", x.look(0, 1), 0);
        s.is("0 was left, but not last", x.count(8), 0);
        MastField y = Worlds.pair("t1;d0;h0", 1, 1);
        Worlds.inCall(y, 0, 9);
        for (int i = 1; i <= 5; i++) {
            y.move(0, i % 2 == 0 ? 0 : 9);
            y.tick();
            s.is("to and fro", y.count(7), i);
            s.is("each but the first is back", y.count(8), i - 1);
        }
        s.is("hand-overs of this call", y.look(0, 4), 5);
    }

    private void backOfThisCall() {
        s.says(0, "this CALL was HANDED OVER last");
        MastField x = Worlds.pair("t1;d0", 1, 1);
        Worlds.inCall(x, 0, 9);
        x.tick();
        x.hang(0);
        s.is("another call", x.call(0), 1);
        s.is("its hand-overs", x.look(0, 4), 0);
        x.move(0, 0);
        x.tick();
        s.is("handed over", x.count(7), 2);
        s.is("the one before was another call's", x.count(8), 0);
        MastField y = Worlds.pair("t1;d0", 2, 2);
        Worlds.inCall(y, 0, 9);
        Worlds.inCall(y, 9, 9);
        y.tick();
        y.move(1, 0);
        y.tick();
        s.is("handed over", y.count(7), 2);
        s.is("the one before was another caller's", y.count(8), 0);
    }

    private void heldUp() {
        s.says(0, "Without a free PLACE it is HELD UP, WAIT stays.");
        MastField x = Worlds.pair("t3;d0", 1, 0);
        Worlds.inCall(x, 0, 9);
        Worlds.ticks(x, 2);
        s.is("not ahead of t", x.count(9), 0);
        x.tick();
        s.is("at t", x.count(9), 1);
        s.is("wait is not 0", x.look(0, 3), 3);
        s.is("its mast", x.look(0, 1), 0);
        x.tick();
        s.is("in the next tick, too", x.count(9), 2);
        s.is("by the same target one more", x.look(0, 3), 4);
        s.is("hand-overs", x.count(7), 0);
        s.is("places", x.about(0, 4) + x.about(1, 4), 1);
    }

    private void heldUpTillFree() {
        s.says(0, "Without a free PLACE it is HELD UP, WAIT stays.");
        MastField x = Worlds.pair("t3;d0", 1, 1);
        Worlds.inCall(x, 9, 9);
        Worlds.inCall(x, 0, 9);
        Worlds.ticks(x, 5);
        s.is("held up", x.count(9), 3);
        x.hang(0);
        x.tick();
        s.is("handed over as soon as one is free", x.look(1, 1), 1);
        s.is("held up", x.count(9), 3);
    }

    private void tick() {
        s.says(15, "A TICK: which it is;");
        MastField x = Worlds.pair("t1", 1, 1);
        x.caller(9);
        s.is("the first", x.tick(), 1);
        s.is("count(5)", x.count(5), 1);
        s.is("an idle one stays idle", x.look(0, 1), -1);
        MastField y = new MastField();
        for (int i = 1; i <= 512; i++) {
            s.is("as many as an object is used for", y.tick(), i);
        }
    }

    private void tickRefuses() {
        s.says(15, "NONE: it would be above 10000.");
        MastField x = Worlds.pair("t9", 1, 0);
        Worlds.ticks(x, 9998);
        Worlds.inCall(x, 0, 9);
        s.is("one less", x.tick(), 9999);
        s.is("the last", x.tick(), 10000);
        s.is("one more", x.tick(), -1);
        s.is("count(5)", x.count(5), 10000);
        s.is("no wait is longer by it", x.look(0, 3), 2);
        s.is("once more", x.tick(), -1);
        x.map(10, 2);
        s.is("another map's first", x.tick(), 1);
    }
}
