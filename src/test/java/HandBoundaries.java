/** Promises 19 to 22: the hand laid out, looked at and flipped, and the terms that they lean on. */
final class HandBoundaries {
    private static final int LOW = Ledger.LOW;
    private static final int HIGH = Ledger.HIGH;

    private final Ledger ledger;

    HandBoundaries(Ledger ledger) {
        this.ledger = ledger;
    }

    void run() {
        beginSizes();
        beginOfThoseThere();
        beginOrder();
        beginFirstOffTheLine();
        beginNeighbours();
        beginOutside();
        beginSidesAlongALine();
        beginFlat();
        heldPoints();
        heldOrderAlways();
        heldNoHand();
        heldUnknown();
        heldOther();
        badWithin();
        badOnTheCircle();
        badNot();
        badNeither();
        badOneSideAlone();
        mayBeNoneOnIt();
        badNoHand();
        badUnknown();
        flipEdge();
        flipGoesFromPToQ();
        flipNoHand();
        flipUnknown();
        flipMayNot();
    }

    private void due(String call, long got, long want) {
        ledger.due(call, got, want);
    }

    private void dueHeld(SignBench x, int... want) {
        due("count(5)", x.count(5), want.length / 3);
        for (int i = 0; i < want.length; i++) {
            due("held(" + i / 3 + ", " + i % 3 + ")", x.held(i / 3, i % 3), want[i]);
        }
    }

    private void beginSizes() {
        ledger.clause(19, "BEGIN: how many TRIANGLES THE HAND has");
        due("the least", Benches.of(0, 0, 1, 0, 0, 1).begin(), 1);
        due("the flattest", Benches.of(-10000, -10000, 10000, 9999, -9999, -9999).begin(), 1);
        due("forty, the most", Benches.fullest().begin(), 75);
        due("forty corners", Benches.onCurve(40).begin(), 38);
        due("forty on a circle", Benches.onCircle(40).begin(), 38);
        SignBench line = Benches.onLine(39);
        line.point(10000, 10000);
        due("39 on a line, one off it", line.begin(), 38);
        SignBench x = Benches.square();
        due("begin()", x.begin(), 2);
        due("begin() again", x.begin(), 2);
        x.flip(1, 3);
        due("begin(), one flipped", x.begin(), 2);
        dueHeld(x, 0, 1, 3, 1, 2, 3);
    }

    private void beginOfThoseThere() {
        ledger.term(19, "a drawing of TRIANGLES of all POINTS that are there as it was begun");
        SignBench x = Benches.of(2, 2, 0, 0, 4, 0, 4, 4, 0, 4);
        x.drop(0);
        due("begin(), one gone", x.begin(), 2);
        dueHeld(x, 1, 2, 4, 2, 3, 4);
        x.point(2, 2);
        due("count(5), one came since", x.count(5), 2);
        due("begin(), with that one", x.begin(), 4);
    }

    private void beginOrder() {
        ledger.term(19, "POINTS by x, of one x by y, come one after the other");
        SignBench x = Benches.of(0, 0, 4, 4, 4, -4, 4, 0);
        due("begin()", x.begin(), 2);
        dueHeld(x, 0, 2, 3, 0, 3, 1);
        SignBench upright = Benches.of(5, 0, 0, 6, 0, 0, 0, 3);
        due("begin(), three of the least x", upright.begin(), 2);
        dueHeld(upright, 0, 1, 3, 0, 3, 2);
    }

    private void beginFirstOffTheLine() {
        ledger.term(19, "from the first one that is not on one line with all before");
        SignBench left = Benches.of(0, 0, 1, 0, 2, 0, 3, 0, 4, 1);
        due("one unit to the left of the line", left.begin(), 3);
        dueHeld(left, 0, 1, 4, 1, 2, 4, 2, 3, 4);
        SignBench right = Benches.of(0, 0, 1, 0, 2, 0, 3, 0, 4, -1);
        due("one unit to the right of the line", right.begin(), 3);
        dueHeld(right, 0, 4, 1, 1, 4, 2, 2, 4, 3);
        SignBench leastLeft = Benches.begun(0, 0, 1, 0, 1, 1);
        dueHeld(leastLeft, 0, 1, 2);
        SignBench leastRight = Benches.begun(0, 0, 0, 1, 1, 0);
        dueHeld(leastRight, 0, 2, 1);
        SignBench third = Benches.of(0, 0, 1, 1, 2, 0);
        due("the third", third.begin(), 1);
        dueHeld(third, 0, 2, 1);
    }

    private void beginNeighbours() {
        ledger.term(19, "that one with each two neighbours of those before makes a TRIANGLE");
        SignBench x = Benches.of(0, 8, 0, 2, 0, 6, 0, 0, 0, 4, 1, 4);
        due("begin()", x.begin(), 4);
        dueHeld(x, 0, 2, 5, 1, 3, 5, 1, 5, 4, 2, 4, 5);
    }

    private void beginOutside() {
        ledger.term(19, "makes a TRIANGLE with each side of the hull so far");
        SignBench corner = Benches.of(0, 0, 0, 4, 4, 0, 5, 5);
        due("one side", corner.begin(), 2);
        corner.move(3, 5, 0);
        due("one side, on another's line", corner.begin(), 2);
        corner.move(3, 5, -1);
        due("one side, on the first one's line", corner.begin(), 2);
        dueHeld(corner, 0, 2, 1, 0, 3, 2);
        corner.move(3, 6, -1);
        due("two sides", corner.begin(), 3);
        dueHeld(corner, 0, 2, 1, 0, 3, 2, 1, 2, 3);
        ledger.term(19, "to whose outside it lies");
        SignBench below = Benches.of(0, 0, 1, 2, 2, 0, 4, 0);
        due("on the lower side's line", below.begin(), 2);
        dueHeld(below, 0, 2, 1, 1, 2, 3);
        below.move(3, 4, -1);
        due("one unit below it", below.begin(), 3);
        dueHeld(below, 0, 2, 1, 0, 3, 2, 1, 2, 3);
        below.move(3, 4, 1);
        due("one unit above it", below.begin(), 2);
        SignBench above = Benches.of(0, 0, 1, -2, 2, 0, 4, 0);
        due("on the upper side's line", above.begin(), 2);
        dueHeld(above, 0, 1, 2, 1, 3, 2);
        above.move(3, 4, 1);
        due("one unit above it", above.begin(), 3);
        dueHeld(above, 0, 1, 2, 0, 2, 3, 1, 3, 2);
        above.move(3, 4, -1);
        due("one unit below it", above.begin(), 2);
        SignBench least = Benches.of(0, 0, 0, 1, 1, 0, 2, -1);
        due("outside by the least", least.begin(), 2);
        dueHeld(least, 0, 2, 1, 0, 3, 2);
    }

    private void beginSidesAlongALine() {
        ledger.term(19, "(its sides being all EDGES of TRIANGLES along it)");
        SignBench below = Benches.of(0, 0, 1, 2, 2, 0, 4, 0, 6, -1);
        due("two sides along one line, below", below.begin(), 5);
        dueHeld(below, 0, 2, 1, 0, 4, 2, 1, 2, 3, 1, 3, 4, 2, 4, 3);
        SignBench above = Benches.of(0, 0, 1, -2, 2, 0, 4, 0, 6, 1);
        due("two sides along one line, above", above.begin(), 5);
        dueHeld(above, 0, 1, 2, 0, 2, 4, 1, 3, 2, 1, 4, 3, 2, 3, 4);
        SignBench on = Benches.of(0, 0, 1, 2, 2, 0, 4, 0, 6, 0);
        due("one after the other on one line", on.begin(), 3);
        dueHeld(on, 0, 2, 1, 1, 2, 3, 1, 3, 4);
    }

    private void beginFlat() {
        ledger.clause(19, "-3 FLAT");
        SignBench x = new SignBench();
        due("no points", x.begin(), -3);
        x.point(0, 0);
        due("one", x.begin(), -3);
        x.point(4, 4);
        due("two", x.begin(), -3);
        x.point(-4, -4);
        due("three on a line", x.begin(), -3);
        due("count(3)", x.count(3), 0);
        due("count(13)", x.count(13), 4);
        x.point(4, 5);
        due("one unit off it", x.begin(), 2);
        x.drop(3);
        due("that one gone", x.begin(), -3);
        due("count(3), the old hand is there", x.count(3), 1);
        due("count(4)", x.count(4), 1);
        due("count(5)", x.count(5), 2);
        due("forty on a line", Benches.onLine(40).begin(), -3);
    }

    private void heldPoints() {
        ledger.clause(20, "POINT what (0 to 2) of TRIANGLE t of THE HAND");
        SignBench x = Benches.begunSquare();
        dueHeld(x, 0, 1, 3, 1, 2, 3);
        SignBench one = Benches.begun(0, 0, 0, 1, 1, 0);
        dueHeld(one, 0, 2, 1);
        SignBench most = Benches.fullest();
        most.begin();
        due("held(74, 2) of 75, a point", most.held(74, 2) >= 0 ? 1 : 0, 1);
        due("held(75, 2) of 75", most.held(75, 2), -1);
    }

    private void heldOrderAlways() {
        ledger.term(20, "TRIANGLES of THE HAND are told and numbered as above, always");
        SignBench x = Benches.fullest();
        x.begin();
        dueInOrder(x, "begun");
        SignBench settled = Benches.fullest();
        settled.begin();
        settled.settle(10000);
        dueInOrder(settled, "settled");
        SignBench flipped = Benches.begunSquare();
        flipped.flip(3, 1);
        dueHeld(flipped, 0, 1, 2, 0, 2, 3);
        flipped.flip(2, 0);
        dueHeld(flipped, 0, 1, 3, 1, 2, 3);
    }

    private void dueInOrder(SignBench x, String when) {
        int before = -1;
        int all = x.count(5);
        due("count(5), " + when, all, 75);
        for (int t = 0; t < all; t++) {
            int a = x.held(t, 0), b = x.held(t, 1), c = x.held(t, 2);
            due("triangle " + t + " has the least ahead, " + when, a < b && a < c ? 1 : 0, 1);
            due("triangle " + t + " is against the clock, " + when, x.turn(a, b, c), 1);
            due("triangle " + t + " comes after the one before, " + when, a * 1600 + b * 40 + c > before ? 1 : 0, 1);
            before = a * 1600 + b * 40 + c;
        }
    }

    private void heldNoHand() {
        ledger.clause(20, "-3");
        SignBench x = Benches.square();
        due("no hand", x.held(0, 0), -3);
        due("no hand, no triangle, no what", x.held(9, 9), -3);
        x.begin();
        due("a hand", x.held(0, 0), 0);
        x.point(9, 9);
        due("one came", x.held(0, 0), -3);
        x.begin();
        x.drop(4);
        due("one is gone", x.held(0, 0), -3);
        x.begin();
        x.move(0, -1, -1);
        due("one moved", x.held(0, 0), -3);
        due("count(13)", x.count(13), 5);
    }

    private void heldUnknown() {
        ledger.clause(20, "-1");
        SignBench x = Benches.begunSquare();
        int[] unknown = {-1, 2, 80, HIGH, LOW};
        for (int t : unknown) due("held(" + t + ", 0)", x.held(t, 0), -1);
        due("held(2, 3), what too", x.held(2, 3), -1);
        due("count(11)", x.count(11), unknown.length + 1);
        due("count(12)", x.count(12), 0);
    }

    private void heldOther() {
        ledger.clause(20, "-2");
        SignBench x = Benches.begunSquare();
        int[] others = {-1, 3, 5, HIGH, LOW};
        for (int what : others) due("held(0, " + what + ")", x.held(0, what), -2);
        due("held(0, 2)", x.held(0, 2), 3);
        due("count(12)", x.count(12), others.length);
    }

    /** The least numbers on one edge across, so that on the circle that one is not bad. */
    private static SignBench quad(int x, int y) {
        return Benches.begun(10, 0, 0, 10, 0, 0, x, y);
    }

    private void badWithin() {
        ledger.clause(21, "Whether an EDGE of THE HAND is BAD (2)");
        due("the least square", Benches.begun(0, 0, 1, 0, 1, 1, 0, 1).bad(1, 3), 2);
        SignBench x = Benches.begunSquare();
        due("bad(1, 3)", x.bad(1, 3), 2);
        due("bad(3, 1)", x.bad(3, 1), 2);
        ledger.term(21, "It is BAD if q lies within the circle through its ends and p");
        due("on the circle, the least an end", quad(10, 10).bad(0, 1), 1);
        SignBench within = quad(9, 10);
        due("one unit within", within.bad(2, 3), 1);
        due("flip(2, 3)", within.flip(2, 3), 1);
        due("one unit within, the other edge", within.bad(0, 1), 2);
        SignBench without = quad(11, 10);
        due("one unit without", without.bad(0, 1), 1);
        due("flip(0, 1)", without.flip(0, 1), 1);
        due("one unit without, the other edge", without.bad(2, 3), 2);
    }

    private void badOnTheCircle() {
        ledger.term(21, "or on it, and of the four POINTS the one of the least number is no end of it");
        due("the least below", Benches.begun(0, 0, 4, 0, 4, 4, 0, 4).bad(1, 3), 2);
        due("the least above", Benches.begun(4, 4, 4, 0, 0, 0, 0, 4).bad(1, 3), 2);
        due("the least an end", Benches.begun(0, 4, 0, 0, 4, 0, 4, 4).bad(0, 2), 1);
        due("the least the other end", Benches.begun(4, 0, 0, 0, 0, 4, 4, 4).bad(0, 2), 1);
        due("the least an end, the greatest too", Benches.begun(4, 0, 0, 0, 4, 4, 0, 4).bad(0, 3), 1);
        SignBench x = Benches.of(9, 9, 4, 0, 0, 0, 0, 4, 4, 4);
        x.drop(0);
        x.begin();
        due("the least of those four an end", x.bad(1, 3), 1);
        x = Benches.of(9, 9, 0, 0, 4, 0, 0, 4, 4, 4, 20, 2);
        x.drop(0);
        x.begin();
        due("the least of those four no end", x.bad(2, 3), 2);
        SignBench greatest = Benches.begun(-10000, -10000, 10000, -10000, 10000, 10000, -10000, 10000);
        due("the greatest circle", greatest.bad(1, 3), 2);
        due("flip(1, 3)", greatest.flip(1, 3), 1);
        due("the greatest circle, flipped", greatest.bad(0, 2), 1);
    }

    private void badNot() {
        ledger.clause(21, "may be flipped and is not BAD (1)");
        SignBench x = Benches.begunSquare();
        x.flip(1, 3);
        due("bad(0, 2)", x.bad(0, 2), 1);
        due("bad(2, 0)", x.bad(2, 0), 1);
        SignBench thin = Benches.begun(0, 0, 10, 2, 10, -2, 20, 0);
        due("thin ones", thin.bad(1, 2), 1);
        SignBench least = Benches.begun(0, 0, 1, 0, 1, 1, 0, 1);
        least.flip(1, 3);
        due("the least square", least.bad(0, 2), 1);
    }

    private void badNeither() {
        ledger.clause(21, "neither (0;");
        SignBench dent = Benches.begun(0, 0, 8, 0, 4, 1, 4, 8);
        due("a dent", dent.bad(0, 2), 0);
        due("a dent", dent.bad(2, 0), 0);
        due("a dent", dent.bad(1, 2), 0);
        due("a dent", dent.bad(2, 3), 0);
    }

    private void badOneSideAlone() {
        ledger.clause(21, "one with a TRIANGLE on one side alone, too)");
        SignBench x = Benches.begunSquare();
        due("bad(0, 1)", x.bad(0, 1), 0);
        due("bad(1, 0)", x.bad(1, 0), 0);
        due("bad(2, 3)", x.bad(2, 3), 0);
        SignBench one = Benches.begun(0, 0, 1, 0, 0, 1);
        due("bad(0, 1) of one triangle", one.bad(0, 1), 0);
        due("bad(1, 2) of one triangle", one.bad(1, 2), 0);
        due("bad(2, 0) of one triangle", one.bad(2, 0), 0);
    }

    private static SignBench kite(int y) {
        return Benches.begun(0, 0, 4, y, 8, 0, 4, 4, 4, -4);
    }

    private void mayBeNoneOnIt() {
        ledger.term(21, "if p and q lie on both sides of it, and its ends on both sides of the line through p and q (none on it)");
        due("an end on the line", kite(0).bad(1, 3), 0);
        due("the other's end on the line", kite(0).bad(1, 4), 0);
        due("one unit this side of it", kite(1).bad(1, 3), 0);
        due("one unit this side of it, the other edge", kite(1).bad(1, 4), 1);
        due("one unit beyond it", kite(-1).bad(1, 3), 1);
        due("one unit beyond it, the other edge", kite(-1).bad(1, 4), 0);
        due("flip, an end on the line", kite(0).flip(1, 3), -3);
        due("flip, one unit this side of it", kite(1).flip(1, 3), -3);
        due("flip, one unit beyond it", kite(-1).flip(1, 3), 1);
        due("flip, the least square", Benches.begun(0, 0, 1, 0, 1, 1, 0, 1).flip(1, 3), 1);
    }

    private void badNoHand() {
        ledger.clause(21, "-3");
        SignBench x = Benches.square();
        due("no hand", x.bad(1, 3), -3);
        due("no hand, nobody", x.bad(-1, 99), -3);
        due("stale", Benches.stale().bad(1, 3), -3);
        due("stale, nobody", Benches.stale().bad(4, 4), -3);
        due("count(13)", x.count(13), 2);
        due("count(11)", x.count(11), 0);
    }

    private void badUnknown() {
        ledger.clause(21, "-1");
        SignBench x = Benches.begunSquare();
        due("two that are no edge", x.bad(0, 2), -1);
        due("two that are no edge", x.bad(2, 0), -1);
        due("one alone", x.bad(1, 1), -1);
        due("bad(0, 4)", x.bad(0, 4), -1);
        due("bad(-1, 0)", x.bad(-1, 0), -1);
        due("bad(HIGH, 1)", x.bad(HIGH, 1), -1);
        due("bad(1, LOW)", x.bad(1, LOW), -1);
        due("bad(40, 40)", x.bad(40, 40), -1);
        due("count(11)", x.count(11), 8);
        SignBench line = Benches.begun(0, 0, 4, 0, 2, 0, 2, 3);
        due("a point between", line.bad(0, 1), -1);
    }

    private void flipEdge() {
        ledger.clause(22, "An EDGE of THE HAND is flipped: 1");
        SignBench x = Benches.begunSquare();
        due("a bad one", x.flip(1, 3), 1);
        due("one that is not bad", x.flip(0, 2), 1);
        due("its ends the other way", x.flip(3, 1), 1);
        due("count(6)", x.count(6), 3);
        due("bad(0, 2)", x.bad(0, 2), 1);
    }

    private void flipGoesFromPToQ() {
        ledger.term(22, "flipped, it goes from p to q");
        SignBench x = Benches.begunSquare();
        x.flip(1, 3);
        due("the old edge", x.bad(1, 3), -1);
        due("the new one", x.bad(0, 2), 1);
        dueHeld(x, 0, 1, 2, 0, 2, 3);
        for (int p = 0; p < 4; p++) due("the square's own side " + p, x.bad(p, (p + 1) % 4), 0);
    }

    private void flipNoHand() {
        ledger.clause(22, "-3 (no HAND)");
        SignBench x = Benches.square();
        due("no hand", x.flip(1, 3), -3);
        due("no hand, nobody", x.flip(-1, 99), -3);
        due("count(13)", x.count(13), 2);
        due("count(11)", x.count(11), 0);
        SignBench stale = Benches.stale();
        due("stale", stale.flip(1, 3), -3);
        due("stale, nobody", stale.flip(4, 4), -3);
        due("count(6)", stale.count(6), 0);
    }

    private void flipUnknown() {
        ledger.clause(22, "-1");
        SignBench x = Benches.begunSquare();
        due("two that are no edge", x.flip(0, 2), -1);
        due("one alone", x.flip(3, 3), -1);
        due("flip(0, 4)", x.flip(0, 4), -1);
        due("flip(-1, 3)", x.flip(-1, 3), -1);
        due("flip(HIGH, LOW)", x.flip(HIGH, LOW), -1);
        due("count(11)", x.count(11), 5);
        due("count(6)", x.count(6), 0);
        x.flip(1, 3);
        due("one that has been flipped", x.flip(1, 3), -1);
    }

    private void flipMayNot() {
        ledger.clause(22, "-3 it may not be");
        SignBench x = Benches.begunSquare();
        for (int p = 0; p < 4; p++) due("one triangle alone, side " + p, x.flip(p, (p + 1) % 4), -3);
        due("count(13)", x.count(13), 4);
        due("count(6)", x.count(6), 0);
        dueHeld(x, 0, 1, 3, 1, 2, 3);
        SignBench dent = Benches.begun(0, 0, 8, 0, 4, 1, 4, 8);
        due("a dent", dent.flip(0, 2), -3);
        due("a dent", dent.flip(2, 3), -3);
        SignBench line = Benches.begun(0, 0, 4, 0, 2, 0, 2, 3);
        due("p and q on one line with an end", line.flip(2, 3), -3);
    }
}
