import java.util.function.Supplier;
import java.util.function.ToLongFunction;

/** The paragraph REFUSALS, for each call that can be refused: twins, one of them refused, stay alike. */
final class RefusalBoundaries {
    private static final int APART = Ledger.APART;

    private final Ledger ledger;

    RefusalBoundaries(Ledger ledger) {
        this.ledger = ledger;
    }

    void run() {
        ofPoints();
        ofQuestions();
        ofPlaces();
        ofTheHand();
        ofSettling();
        inOrder();
        inOrderOfTheHand();
        toldApart();
        noneIsNoRefusal();
    }

    private void due(String call, long got, long want) {
        ledger.due(call, got, want);
    }

    /** Five points, one more that is gone, a hand that can be flipped and settled. */
    private static SignBench ready() {
        SignBench x = Benches.of(0, 0, 4, 0, 4, 4, 0, 4, 8, 2, 20, 20);
        x.drop(5);
        x.begin();
        return x;
    }

    private static SignBench full() {
        SignBench x = Benches.onCurve(40);
        x.drop(7);
        return x;
    }

    private static String look(SignBench x) {
        StringBuilder seen = new StringBuilder();
        for (int what = 0; what <= 6; what++) seen.append(x.count(what)).append(' ');
        for (int p = 0; p < 7; p++) {
            for (int what = 0; what < 4; what++) seen.append(x.pointOf(p, what)).append(' ');
        }
        for (int i = 0; i < 7; i++) seen.append(x.corner(i)).append(' ');
        for (int t = 0; t < 5; t++) {
            for (int what = 0; what < 6; what++) seen.append(x.triangle(t, what)).append(' ');
            for (int what = 0; what < 3; what++) seen.append(x.held(t, what)).append(' ');
        }
        return seen.append(x.area()).append(' ').append(x.bads()).append(' ').append(x.alike()).toString();
    }

    /** Its refusal is counted once and no other, and all else is as in a twin that was never asked. */
    private void refused(String call, Supplier<SignBench> maker, ToLongFunction<SignBench> asked, int number) {
        refusedWith(call, maker, asked, number, number);
    }

    private void refusedApart(String call, Supplier<SignBench> maker, ToLongFunction<SignBench> asked, int number) {
        refusedWith(call, maker, asked, number, APART - number);
    }

    private void refusedWith(String call, Supplier<SignBench> maker, ToLongFunction<SignBench> asked, int number, long answer) {
        SignBench x = maker.get();
        SignBench twin = maker.get();
        due(call, asked.applyAsLong(x), answer);
        for (int kind = 1; kind <= 6; kind++) {
            due("count(" + (10 + kind) + ") after " + call, x.count(10 + kind), twin.count(10 + kind) + (kind == -number ? 1 : 0));
        }
        due("what else " + call + " changed", look(x).equals(look(twin)) ? 0 : 1, 0);
    }

    private void ofPoints() {
        ledger.term(2, "-5 TAKEN: a place that a POINT has");
        refused("point(4, 4)", RefusalBoundaries::ready, x -> x.point(4, 4), -5);
        ledger.term(2, "-6 ROOM: a number above the greatest, no room");
        refused("point(10001, 0)", RefusalBoundaries::ready, x -> x.point(10001, 0), -6);
        refused("point(0, 10001)", RefusalBoundaries::ready, x -> x.point(0, 10001), -6);
        refused("point(7, 1), no room", RefusalBoundaries::full, x -> x.point(7, 1), -6);
        ledger.term(2, "-4 BELOW: a number below the least");
        refused("point(-10001, 0)", RefusalBoundaries::ready, x -> x.point(-10001, 0), -4);
        refused("point(0, -10001)", RefusalBoundaries::ready, x -> x.point(0, -10001), -4);
        ledger.term(3, "-1 NOBODY: no such POINT, TRIANGLE, EDGE");
        refused("drop(5)", RefusalBoundaries::ready, x -> x.drop(5), -1);
        refused("drop(6)", RefusalBoundaries::ready, x -> x.drop(6), -1);
        ledger.term(4, "nothing changes but how many there were");
        refused("move(5, 1, 1)", RefusalBoundaries::ready, x -> x.move(5, 1, 1), -1);
        refused("move(0, -10001, 1)", RefusalBoundaries::ready, x -> x.move(0, -10001, 1), -4);
        refused("move(0, 1, 10001)", RefusalBoundaries::ready, x -> x.move(0, 1, 10001), -6);
        refused("move(0, 4, 4)", RefusalBoundaries::ready, x -> x.move(0, 4, 4), -5);
    }

    private void ofQuestions() {
        ledger.term(5, "nothing changes but how many there were");
        refusedApart("pointOf(5, 0)", RefusalBoundaries::ready, x -> x.pointOf(5, 0), -1);
        ledger.term(5, "-2 OTHER: what");
        refusedApart("pointOf(0, 4)", RefusalBoundaries::ready, x -> x.pointOf(0, 4), -2);
        ledger.term(6, "nothing changes but how many there were");
        refusedApart("turn(0, 1, 5)", RefusalBoundaries::ready, x -> x.turn(0, 1, 5), -1);
        ledger.term(7, "nothing changes but how many there were");
        refusedApart("round(0, 1, 2, 5)", RefusalBoundaries::ready, x -> x.round(0, 1, 2, 5), -1);
        refusedApart("round(0, 1, 1, 2)", RefusalBoundaries::ready, x -> x.round(0, 1, 1, 2), -3);
        ledger.term(12, "-1 NOBODY: no such POINT, TRIANGLE, EDGE");
        refusedApart("triangle(3, 0)", RefusalBoundaries::ready, x -> x.triangle(3, 0), -1);
        refusedApart("triangle(0, 6)", RefusalBoundaries::ready, x -> x.triangle(0, 6), -2);
        ledger.term(13, "nothing changes but how many there were");
        refused("ring(3)", RefusalBoundaries::ready, x -> x.ring(3), -1);
        ledger.term(14, "nothing changes but how many there were");
        refused("edge(0, 5)", RefusalBoundaries::ready, x -> x.edge(0, 5), -1);
        refused("edge(0, 0)", RefusalBoundaries::ready, x -> x.edge(0, 0), -1);
    }

    private void ofPlaces() {
        ledger.term(15, "(x, y as of POINTS, or any within these bounds)");
        refusedApart("where(0, -10001)", RefusalBoundaries::ready, x -> x.where(0, -10001), -4);
        refusedApart("where(10001, 0)", RefusalBoundaries::ready, x -> x.where(10001, 0), -6);
        ledger.term(16, "(x, y as of POINTS, or any within these bounds)");
        refusedApart("nearest(-10001, 0)", RefusalBoundaries::ready, x -> x.nearest(-10001, 0), -4);
        refusedApart("nearest(0, 10001)", RefusalBoundaries::ready, x -> x.nearest(0, 10001), -6);
        ledger.term(17, "nothing changes but how many there were");
        refused("cross(0, 1, 2, 5)", RefusalBoundaries::ready, x -> x.cross(0, 1, 2, 5), -1);
        refused("cross(0, 1, 2, 2)", RefusalBoundaries::ready, x -> x.cross(0, 1, 2, 2), -1);
        ledger.term(18, "nothing changes but how many there were");
        refused("around(5, 0)", RefusalBoundaries::ready, x -> x.around(5, 0), -1);
    }

    private void ofTheHand() {
        ledger.term(19, "-3 STATE: FLAT");
        refused("begin()", () -> Benches.onLine(5), x -> x.begin(), -3);
        ledger.term(20, "there is no HAND, or it is STALE");
        refused("held(0, 0), no hand", Benches::square, x -> x.held(0, 0), -3);
        refused("held(0, 0), stale", Benches::stale, x -> x.held(0, 0), -3);
        refused("held(3, 0)", RefusalBoundaries::ready, x -> x.held(3, 0), -1);
        refused("held(0, 3)", RefusalBoundaries::ready, x -> x.held(0, 3), -2);
        ledger.term(21, "there is no HAND, or it is STALE");
        refused("bad(1, 3), no hand", Benches::square, x -> x.bad(1, 3), -3);
        refused("bad(1, 3), stale", Benches::stale, x -> x.bad(1, 3), -3);
        refused("bad(0, 2), no edge", RefusalBoundaries::ready, x -> x.bad(0, 2), -1);
        ledger.term(22, "an EDGE that may not be flipped");
        refused("flip(0, 1)", RefusalBoundaries::ready, x -> x.flip(0, 1), -3);
        refused("flip(0, 2), no edge", RefusalBoundaries::ready, x -> x.flip(0, 2), -1);
        refused("flip(1, 3), no hand", Benches::square, x -> x.flip(1, 3), -3);
        refused("flip(1, 3), stale", Benches::stale, x -> x.flip(1, 3), -3);
    }

    private void ofSettling() {
        ledger.term(23, "there is no HAND, or it is STALE");
        refused("settle(1), no hand", Benches::square, x -> x.settle(1), -3);
        refused("settle(1), stale", Benches::stale, x -> x.settle(1), -3);
        refused("settle(-1)", RefusalBoundaries::ready, x -> x.settle(-1), -4);
        refused("settle(10001)", RefusalBoundaries::ready, x -> x.settle(10001), -6);
        ledger.term(24, "there is no HAND, or it is STALE");
        refused("alike(), no hand", Benches::square, x -> x.alike(), -3);
        refused("alike(), stale", Benches::stale, x -> x.alike(), -3);
        ledger.term(25, "there is no HAND, or it is STALE");
        refused("bads(), no hand", Benches::square, x -> x.bads(), -3);
        refused("bads(), stale", Benches::stale, x -> x.bads(), -3);
    }

    private void inOrder() {
        ledger.term(2, "the first that fits in the order in which it tells them");
        refused("point: -4 ahead of -6", RefusalBoundaries::ready, x -> x.point(10001, -10001), -4);
        refused("point: -4 ahead of no room", RefusalBoundaries::full, x -> x.point(-10001, 0), -4);
        refused("point: no room ahead of -5", RefusalBoundaries::full, x -> x.point(0, 0), -6);
        ledger.term(4, "the first that fits in the order in which it tells them");
        refused("move: -1 ahead of -4", RefusalBoundaries::ready, x -> x.move(5, -10001, 0), -1);
        refused("move: -1 ahead of -6", RefusalBoundaries::ready, x -> x.move(5, 10001, 0), -1);
        refused("move: -1 ahead of -5", RefusalBoundaries::ready, x -> x.move(5, 4, 4), -1);
        refused("move: -4 ahead of -6", RefusalBoundaries::ready, x -> x.move(0, 10001, -10001), -4);
        ledger.term(5, "the first that fits in the order in which it tells them");
        refusedApart("pointOf: -1 ahead of -2", RefusalBoundaries::ready, x -> x.pointOf(5, 4), -1);
        ledger.term(7, "the first that fits in the order in which it tells them");
        refusedApart("round: -1 ahead of -3", RefusalBoundaries::ready, x -> x.round(0, 1, 1, 5), -1);
        ledger.term(12, "the first that fits in the order in which it tells them");
        refusedApart("triangle: -1 ahead of -2", RefusalBoundaries::ready, x -> x.triangle(3, 6), -1);
        ledger.term(15, "the first that fits in the order in which it tells them");
        refusedApart("where: -4 ahead of -6", RefusalBoundaries::ready, x -> x.where(10001, -10001), -4);
        ledger.term(16, "the first that fits in the order in which it tells them");
        refusedApart("nearest: -4 ahead of -6", RefusalBoundaries::ready, x -> x.nearest(10001, -10001), -4);
    }

    private void inOrderOfTheHand() {
        ledger.term(20, "the first that fits in the order in which it tells them");
        refused("held: -3 ahead of -1", Benches::square, x -> x.held(9, 0), -3);
        refused("held: -3 ahead of -2", Benches::stale, x -> x.held(0, 9), -3);
        refused("held: -1 ahead of -2", RefusalBoundaries::ready, x -> x.held(9, 9), -1);
        ledger.term(21, "the first that fits in the order in which it tells them");
        refused("bad: -3 ahead of -1", Benches::stale, x -> x.bad(4, 0), -3);
        ledger.term(22, "the first that fits in the order in which it tells them");
        refused("flip: -3 ahead of -1", Benches::square, x -> x.flip(9, 9), -3);
        refused("flip: -1 ahead of -3, no edge and a dent", () -> Benches.begun(0, 0, 8, 0, 4, 1, 4, 8, 4, 16),
            x -> x.flip(2, 4), -1);
        ledger.term(23, "the first that fits in the order in which it tells them");
        refused("settle: -3 ahead of -4", Benches::stale, x -> x.settle(-1), -3);
        refused("settle: -3 ahead of -6", Benches::square, x -> x.settle(10001), -3);
    }

    private void toldApart() {
        ledger.term(26, "Of answers that may be below 0 as told REFUSALS are 1000000000 less them (so -1 is 1000000001)");
        SignBench x = new SignBench();
        due("pointOf(0, 0)", x.pointOf(0, 0), 1000000001);
        due("turn(0, 0, 0)", x.turn(0, 0, 0), 1000000001);
        due("round(0, 0, 0, 0)", x.round(0, 0, 0, 0), 1000000001);
        due("triangle(0, 0)", x.triangle(0, 0), 1000000001);
        due("where(-10001, 0)", x.where(-10001, 0), 1000000004);
        due("where(10001, 0)", x.where(10001, 0), 1000000006);
        due("nearest(-10001, 0)", x.nearest(-10001, 0), 1000000004);
        due("nearest(10001, 0)", x.nearest(10001, 0), 1000000006);
        x.point(0, 0);
        due("pointOf(0, -1)", x.pointOf(0, -1), 1000000002);
        due("round(0, 0, 0, 0)", x.round(0, 0, 0, 0), 1000000003);
        due("count(11), counted as any", x.count(11), 4);
        due("count(12), counted as any", x.count(12), 1);
        due("count(13), counted as any", x.count(13), 1);
        due("count(14), counted as any", x.count(14), 2);
        due("count(16), counted as any", x.count(16), 2);
    }

    private void noneIsNoRefusal() {
        ledger.term(26, "REFUSALS (the call answers the number");
        SignBench x = new SignBench();
        due("corner(0)", x.corner(0), -9);
        due("where(0, 0)", x.where(0, 0), -9);
        due("nearest(0, 0)", x.nearest(0, 0), -9);
        due("count(7)", x.count(7), -9);
        x.point(0, 0);
        due("around(0, 0)", x.around(0, 0), -9);
        for (int what = 11; what <= 16; what++) due("count(" + what + ")", x.count(what), 0);
    }
}
