import java.util.Arrays;
import java.util.List;

/** What a refused call changes (Terms): every refusal of every method, in nets that have something to lose. */
final class RefusedEdges {
    private static final int[] FAR = {Integer.MIN_VALUE, Integer.MIN_VALUE + 1, -1000000, -65536, -256, -64, -33, -32, -8,
        256, 257, 1000, 65536, 65537, 1 << 24, 1 << 30, Integer.MAX_VALUE - 1, Integer.MAX_VALUE};
    private final Sentences s;

    RefusedEdges(Sentences s) {
        this.s = s;
    }

    private interface Call {
        int on(MastField x);
    }

    private interface Wild {
        int on(MastField x, int n);
    }

    private static int told(boolean answer) {
        return answer ? 1 : -1;
    }

    void all() {
        nothingIsLost();
        nothingIsLostOfAFullNet();
        numbersFarOff();
        faultsTakeTheTape();
    }

    /**
     * 10 by 2 cells: caller 0 waits at mast 0 for mast 1, caller 1 has two places, caller 2 was dropped, caller 3 has
     * been blocked; mast 2 has no places, mast 3 is asleep, mast 4 is reported by masts 0 and 1; spots, shades, a tape.
     */
    private static MastField some() {
        MastField x = Worlds.pair("t3;d6;n5;h3", 2, 2);
        x.mast(5, 60, 2, 0);
        x.mast(14, 90, 3, 1);
        x.shade(4, 4);
        x.spot(3);
        x.spot(19);
        x.caller(0);
        Worlds.inCall(x, 0, 9);
        Worlds.inCall(x, 14, 15);
        Worlds.ticks(x, 2);
        x.wake(3, false);
        x.tick();
        x.call(0);
        x.move(0, 9);
        x.caller(0);
        x.reach(1, 1);
        Worlds.told(x, "t3;d6;n5;h3;m100");
        x.call(3);
        Worlds.told(x, "t3;d6;n5;h3");
        x.mast(9, 130, 10, 0);
        Worlds.ticks(x, 2);
        Due.feed(x, "h9;t1;m5;d2;w3;n2;h8");
        return x;
    }

    private static MastField full() {
        MastField x = new MastField();
        x.map(10, 10);
        for (int m = 0; m < 8; m++) {
            x.mast(12 * m, 60 + m, m, m);
        }
        for (int k = 0; k < 20; k++) {
            x.caller(5 * k);
            x.call(k);
            x.spot(4 * k + 1);
        }
        Due.feed(x, "h9;t1;m5;d2;w3;n2;h9;t1;m5;d2;w3;n2;h9;t1;m5;d2;w3;n2;h7;t8");
        x.tick();
        return x;
    }

    private void nothingIsLost() {
        s.says(0, "A call that is refused (NONE, false) changes nothing but the tape, where it is told.");
        MastField x = some();
        int[] due = {9, 0, -1, 2, 0, 0, 9, 1, 0, 0, 1, 0};
        for (int i = 0; i < due.length; i++) {
            s.is("the net is as it should be: look(" + i / 6 + ", " + i % 6 + ")", x.look(i / 6, i % 6), due[i]);
        }
        s.is("the net is as it should be: a dropped one", x.look(2, 5), 3);
        s.is("the net is as it should be: a blocked one", x.count(6), 1);
        s.is("the net is as it should be: reports by mast 0", x.reports(0, 4), 2);
        s.is("the net is as it should be: reports by mast 1", x.reports(1, 4), 2);
        refusals(false);
    }

    private void refusals(boolean full) {
        List<Call> calls = full ? fullCalls() : List.of(
            x -> told(x.map(1, 5)), x -> told(x.map(5, 1)), x -> told(x.map(11, 5)), x -> told(x.map(5, 11)),
            x -> told(x.shade(-1, 3)), x -> told(x.shade(20, 3)), x -> told(x.shade(4, -1)), x -> told(x.shade(4, 21)),
            x -> x.mast(-1, 9, 9, 9), x -> x.mast(20, 9, 9, 9), x -> x.mast(9, -1, 9, 9), x -> x.mast(9, 201, 9, 9),
            x -> x.mast(9, 9, -1, 9), x -> x.mast(9, 9, 11, 9), x -> x.mast(9, 9, 9, -1), x -> x.mast(9, 9, 9, 21),
            x -> told(x.reach(-1, 5)), x -> told(x.reach(5, 5)), x -> told(x.reach(0, -1)), x -> told(x.reach(0, 11)),
            x -> told(x.wake(-1, false)), x -> told(x.wake(5, false)), x -> told(x.wake(0, true)),
            x -> told(x.wake(3, false)), x -> x.rules(21), x -> x.rules(-1),
            x -> told(x.neighbour(-1, 0, true)), x -> told(x.neighbour(0, 5, true)), x -> told(x.neighbour(1, 1, true)),
            x -> told(x.neighbour(0, 1, true)), x -> told(x.neighbour(0, 2, false)), x -> told(x.neighbour(0, 0, false)),
            x -> x.caller(-1), x -> x.caller(20),
            x -> told(x.move(-1, 0)), x -> told(x.move(4, 0)), x -> told(x.move(0, -1)), x -> told(x.move(0, 20)),
            x -> x.call(-1), x -> x.call(4), x -> x.call(0), x -> x.call(1),
            x -> told(x.hang(-1)), x -> told(x.hang(4)), x -> told(x.hang(2)), x -> told(x.hang(3)),
            x -> x.look(-1, 0), x -> x.look(4, 0), x -> x.look(0, -1), x -> x.look(0, 6),
            x -> x.about(-1, 0), x -> x.about(5, 0), x -> x.about(0, -1), x -> x.about(0, 8),
            x -> x.reports(0, 0), x -> x.reports(-1, 0), x -> x.reports(0, 5), x -> x.covered(-1), x -> x.covered(20),
            x -> told(x.spot(-1)), x -> told(x.spot(20)), x -> told(x.spot(3)), x -> x.best(-2), x -> x.best(4),
            x -> x.loss(7, 1, 1), x -> x.loss(1, 0, 1), x -> x.loss(1, 1, 21), x -> x.count(-1), x -> x.count(18),
            x -> x.count(50));
        MastField all = full ? full() : some();
        for (int i = 0; i < calls.size(); i++) {
            MastField x = full ? full() : some();
            s.is("refusal " + i, calls.get(i).on(x), -1);
            calls.get(i).on(all);
            sameFuture("refusal " + i, x, full ? full() : some());
        }
        sameFuture("all refusals, one after the other", all, full ? full() : some());
    }

    private static List<Call> fullCalls() {
        return List.of(x -> x.mast(0, 9, 9, 9), x -> x.caller(0), x -> told(x.spot(0)), x -> x.feed(1, 2, 3, 4, 5),
            x -> x.rules(61));
    }

    private void nothingIsLostOfAFullNet() {
        s.says(0, "A call that is refused (NONE, false) changes nothing but the tape, where it is told.");
        MastField x = full();
        s.is("the net is full: masts", x.count(2), 8);
        s.is("the net is full: callers", x.count(3), 20);
        s.is("the net is full: spots", x.count(14), 20);
        s.is("the net is full: tape", x.count(16), 60);
        refusals(true);
    }

    /** What cannot be asked shows in what comes then: waits and targets, old places, ticks of hand-overs, the tape. */
    private void sameFuture(String what, MastField x, MastField y) {
        same(what, x, y);
        for (int i = 0; i < 12; i++) {
            s.is(what + ": tick", x.tick(), y.tick());
            s.is(what + ": rules", i == 4 ? x.rules(20) : 0, i == 4 ? y.rules(20) : 0);
            s.is(what + ": move", told(x.move(i % 4, i % 3 * 4)), told(y.move(i % 4, i % 3 * 4)));
            s.is(what + ": call", x.call(i % 4), y.call(i % 4));
            s.is(what + ": wake", told(x.wake(3, i % 2 == 0)), told(y.wake(3, i % 2 == 0)));
            same(what + ", " + i + " ticks later", x, y);
        }
        s.is(what + ": spot", told(x.spot(7)), told(y.spot(7)));
        s.is(what + ": caller", x.caller(7), y.caller(7));
        s.is(what + ": mast", x.mast(7, 7, 7, 7), y.mast(7, 7, 7, 7));
        same(what + ", at the end", x, y);
    }

    private void same(String what, MastField x, MastField y) {
        s.yes(what + ": the net is as if it had not been called", Arrays.equals(Worlds.whole(x), Worlds.whole(y)));
    }

    /** Each argument of each method far out of its bounds, where sums, products and shifts wrap around. */
    private void numbersFarOff() {
        s.says(0, "A call that is refused (NONE, false) changes nothing");
        List<Wild> calls = List.of(
            (x, n) -> told(x.map(n, 5)), (x, n) -> told(x.map(5, n)), (x, n) -> told(x.map(n, n)),
            (x, n) -> told(x.shade(n, 5)), (x, n) -> told(x.shade(5, n)), (x, n) -> x.mast(n, 9, 9, 9),
            (x, n) -> x.mast(9, n, 9, 9), (x, n) -> x.mast(9, 9, n, 9), (x, n) -> x.mast(9, 9, 9, n),
            (x, n) -> told(x.reach(n, 5)), (x, n) -> told(x.reach(0, n)), (x, n) -> told(x.wake(n, true)),
            (x, n) -> told(x.wake(n, false)), (x, n) -> x.field(n, 0) == -1000 ? -1 : 0,
            (x, n) -> x.field(0, n) == -1000 ? -1 : 0, (x, n) -> x.rules(n),
            (x, n) -> told(x.neighbour(n, 0, true)), (x, n) -> told(x.neighbour(0, n, true)),
            (x, n) -> told(x.neighbour(n, 0, false)), (x, n) -> told(x.neighbour(0, n, false)),
            (x, n) -> told(x.neighbour(n, n, true)), (x, n) -> x.caller(n), (x, n) -> told(x.move(n, 0)),
            (x, n) -> told(x.move(0, n)), (x, n) -> x.call(n), (x, n) -> told(x.hang(n)), (x, n) -> x.look(n, 0),
            (x, n) -> x.look(0, n), (x, n) -> x.about(n, 0), (x, n) -> x.about(0, n), (x, n) -> x.reports(n, 0),
            (x, n) -> x.reports(0, n), (x, n) -> x.covered(n), (x, n) -> told(x.spot(n)), (x, n) -> x.best(n),
            (x, n) -> x.loss(n, 1, 1), (x, n) -> x.loss(1, n, 1), (x, n) -> x.loss(1, 1, n), (x, n) -> x.count(n));
        for (int i = 0; i < calls.size(); i++) {
            MastField x = some();
            for (int n : FAR) {
                s.is("call " + i + " with " + n, calls.get(i).on(x, n), -1);
            }
            same("call " + i + " far off", x, some());
        }
    }

    private void faultsTakeTheTape() {
        s.says(0, "changes nothing but the tape, where it is told.");
        MastField x = some();
        MastField y = some();
        s.is("a fault", x.rules(18), 118);
        s.is("the tape is told of", x.count(16), 0);
        Due.feed(x, "h9;t1;m5;d2;w3;n2;h8");
        sameFuture("a fault, the tape then fed again", x, y);
    }
}
