/** Promises 1 to 7, and the terms that they lean on. */
final class PointBoundaries {
    private static final int APART = Ledger.APART;
    private static final int LOW = Ledger.LOW;
    private static final int HIGH = Ledger.HIGH;

    private final Ledger ledger;

    PointBoundaries(Ledger ledger) {
        this.ledger = ledger;
    }

    void run() {
        noPoints();
        noHand();
        pointNumbers();
        pointBounds();
        pointBelow();
        pointAbove();
        pointRoom();
        pointTaken();
        pointPlaceOfOneGone();
        dropGone();
        dropUnknown();
        oneGoneIsNobody();
        oneGoneIsNowhere();
        moveElsewhere();
        moveMakesStale();
        moveUnknown();
        moveBelow();
        moveAbove();
        moveTaken();
        pointOfPlace();
        pointOfTriangles();
        pointOfCorner();
        pointOfUnknown();
        pointOfOther();
        turnOfThree();
        turnByOneUnit();
        turnUnknown();
        roundOfFour();
        roundByOneUnit();
        roundOfTheFlattest();
        roundUnknown();
        roundOnALine();
    }

    private void due(String call, long got, long want) {
        ledger.due(call, got, want);
    }

    private void noPoints() {
        ledger.clause(1, "No POINTS");
        SignBench x = new SignBench();
        due("count(0)", x.count(0), 0);
        due("count(1)", x.count(1), 0);
        due("count(2)", x.count(2), 1);
        due("hull()", x.hull(), 0);
        due("area()", x.area(), 0);
        due("triangles()", x.triangles(), 0);
        due("nearest(0, 0)", x.nearest(0, 0), -9);
        for (int what = 11; what <= 16; what++) due("count(" + what + ")", x.count(what), 0);
        due("drop(0)", x.drop(0), -1);
        SignBench other = new SignBench();
        due("count(11) of another new one", other.count(11), 0);
        x.point(1, 1);
        due("count(1) of another new one", other.count(1), 0);
    }

    private void noHand() {
        ledger.clause(1, "no HAND");
        SignBench x = new SignBench();
        for (int what = 3; what <= 6; what++) due("count(" + what + ")", x.count(what), 0);
        due("bads()", x.bads(), -3);
        due("alike()", x.alike(), -3);
        due("settle(0)", x.settle(0), -3);
        due("held(0, 0)", x.held(0, 0), -3);
        x = Benches.square();
        due("count(3) with points", x.count(3), 0);
        due("count(4) with points", x.count(4), 0);
        due("bads() with points", x.bads(), -3);
    }

    private void pointNumbers() {
        ledger.clause(2, "A POINT: its number");
        SignBench x = new SignBench();
        due("the first", x.point(5, 5), 0);
        due("the second", x.point(5, 6), 1);
        due("one refused", x.point(5, 6), -5);
        due("the third, none lost to the one refused", x.point(5, 7), 2);
        x.drop(2);
        due("the fourth, none again", x.point(5, 8), 3);
    }

    private void pointBounds() {
        ledger.term(2, "x, y from -10000 to 10000");
        SignBench x = new SignBench();
        due("point(-10000, -10000)", x.point(-10000, -10000), 0);
        due("point(10000, 10000)", x.point(10000, 10000), 1);
        due("point(-10000, 10000)", x.point(-10000, 10000), 2);
        due("point(10000, -10000)", x.point(10000, -10000), 3);
        due("hull()", x.hull(), 4);
        due("area()", x.area(), 800000000L);
    }

    private void pointBelow() {
        ledger.clause(2, "-4");
        SignBench x = new SignBench();
        due("point(-10001, 0)", x.point(-10001, 0), -4);
        due("point(0, -10001)", x.point(0, -10001), -4);
        due("point(LOW, LOW)", x.point(LOW, LOW), -4);
        due("point(-10001, 10001)", x.point(-10001, 10001), -4);
        due("point(10001, -10001)", x.point(10001, -10001), -4);
        due("count(14)", x.count(14), 5);
        due("count(0)", x.count(0), 0);
    }

    private void pointAbove() {
        ledger.clause(2, "-6");
        SignBench x = new SignBench();
        due("point(10001, 0)", x.point(10001, 0), -6);
        due("point(0, 10001)", x.point(0, 10001), -6);
        due("point(HIGH, HIGH)", x.point(HIGH, HIGH), -6);
        due("count(16)", x.count(16), 3);
        due("count(0)", x.count(0), 0);
    }

    private void pointRoom() {
        ledger.term(2, "40 at most are ever told");
        SignBench x = Benches.onCurve(39);
        due("count(0)", x.count(0), 39);
        due("point, the 40th", x.point(0, 9), 39);
        ledger.clause(2, "(40, too)");
        due("point, the 41st", x.point(1, 9), -6);
        due("point, full and taken", x.point(0, 9), -6);
        due("point, full and below", x.point(0, -10001), -4);
        due("point, full and above", x.point(0, 10001), -6);
        for (int p = 0; p < 40; p++) due("drop(" + p + ")", x.drop(p), 1);
        due("point, all gone", x.point(0, 0), -6);
        due("count(16)", x.count(16), 4);
        due("count(0)", x.count(0), 40);
        due("count(1)", x.count(1), 0);
    }

    private void pointTaken() {
        ledger.clause(2, "-5");
        SignBench x = Benches.of(0, 0, -10000, 10000);
        due("point(0, 0)", x.point(0, 0), -5);
        due("point(-10000, 10000)", x.point(-10000, 10000), -5);
        due("point(0, 1), one beside", x.point(0, 1), 2);
        due("point(1, 0), one beside", x.point(1, 0), 3);
        due("point(10000, -10000)", x.point(10000, -10000), 4);
        due("count(15)", x.count(15), 2);
    }

    private void pointPlaceOfOneGone() {
        ledger.term(2, "no two of those that are there in one place");
        SignBench x = Benches.of(3, 3, 5, 5);
        x.drop(0);
        due("point where one is gone", x.point(3, 3), 2);
        due("point there again", x.point(3, 3), -5);
        x.move(1, 6, 6);
        due("point whence one moved", x.point(5, 5), 3);
        due("point whither one moved", x.point(6, 6), -5);
    }

    private void dropGone() {
        ledger.clause(3, "A POINT is GONE: 1");
        SignBench x = Benches.onCurve(40);
        due("drop(0), the first", x.drop(0), 1);
        due("drop(39), the last", x.drop(39), 1);
        due("count(1)", x.count(1), 38);
        due("count(0)", x.count(0), 40);
        due("corner(0)", x.corner(0), 1);
        for (int p = 1; p < 39; p++) due("drop(" + p + ")", x.drop(p), 1);
        due("count(1), all gone", x.count(1), 0);
        due("hull()", x.hull(), 0);
        due("nearest(0, 0)", x.nearest(0, 0), -9);
    }

    private void dropUnknown() {
        ledger.clause(3, "-1");
        SignBench x = Benches.of(0, 0, 1, 1);
        int[] unknown = {-1, 2, 39, 40, 41, HIGH, LOW};
        for (int p : unknown) due("drop(" + p + ")", x.drop(p), -1);
        x.drop(1);
        due("drop(1) again", x.drop(1), -1);
        due("count(11)", x.count(11), unknown.length + 1);
        due("count(1)", x.count(1), 1);
        SignBench full = Benches.onCurve(40);
        due("drop(40), full", full.drop(40), -1);
        due("drop(39), full", full.drop(39), 1);
    }

    private void oneGoneIsNobody() {
        ledger.term(3, "a POINT may be GONE");
        SignBench x = Benches.of(0, 0, 4, 0, 4, 4, 0, 4);
        x.drop(3);
        due("drop", x.drop(3), -1);
        due("move", x.move(3, 7, 7), -1);
        due("pointOf", x.pointOf(3, 0), APART + 1);
        due("turn", x.turn(0, 1, 3), APART + 1);
        due("round", x.round(0, 1, 2, 3), APART + 1);
        due("edge", x.edge(0, 3), -1);
        due("cross", x.cross(0, 1, 2, 3), -1);
        due("around", x.around(3, 0), -1);
        x.begin();
        due("bad", x.bad(0, 3), -1);
        due("flip", x.flip(0, 3), -1);
    }

    private void oneGoneIsNowhere() {
        ledger.term(3, "those that are there");
        SignBench x = Benches.of(0, 0, 4, 0, 4, 4, 0, 4, 2, 2);
        x.drop(4);
        due("triangles()", x.triangles(), 2);
        due("ring(0)", x.ring(0), 4);
        due("nearest(2, 2)", x.nearest(2, 2), 0);
        due("around(0, 3)", x.around(0, 3), -9);
        x.drop(0);
        due("hull()", x.hull(), 3);
        due("corner(0)", x.corner(0), 3);
        due("area()", x.area(), 16);
        due("where(1, 1)", x.where(1, 1), -9);
        due("begin()", x.begin(), 1);
        x.drop(1);
        due("count(2)", x.count(2), 1);
    }

    private void moveElsewhere() {
        ledger.clause(4, "A POINT goes elsewhere: 1");
        SignBench x = Benches.of(0, 0, 4, 0, 0, 4);
        due("move(0, -10000, -10000)", x.move(0, -10000, -10000), 1);
        due("pointOf(0, 0)", x.pointOf(0, 0), -10000);
        due("pointOf(0, 1)", x.pointOf(0, 1), -10000);
        due("move(0, 10000, 10000)", x.move(0, 10000, 10000), 1);
        due("pointOf(0, 0)", x.pointOf(0, 0), 10000);
        due("corner(0), by the new places", x.corner(0), 2);
        due("move(0, 0, 0), back again", x.move(0, 0, 0), 1);
        due("corner(0)", x.corner(0), 0);
        due("area()", x.area(), 16);
        due("count(0)", x.count(0), 3);
        due("count(1)", x.count(1), 3);
        SignBench full = Benches.onCurve(40);
        due("move(39, 1, 0), full", full.move(39, 1, 0), 1);
    }

    private void moveMakesStale() {
        ledger.clause(4, "(THE HAND is STALE)");
        SignBench x = Benches.begunSquare();
        due("count(4)", x.count(4), 0);
        due("move(0, -1, -1)", x.move(0, -1, -1), 1);
        due("count(4)", x.count(4), 1);
        due("bads()", x.bads(), -3);
        x.begin();
        due("count(4), begun again", x.count(4), 0);
        due("move(0, -1, -1), its own place", x.move(0, -1, -1), 1);
        due("count(4)", x.count(4), 1);
        SignBench none = Benches.square();
        none.move(0, -1, -1);
        due("count(4), no hand", none.count(4), 0);
    }

    private void moveUnknown() {
        ledger.clause(4, "-1");
        SignBench x = Benches.of(0, 0, 4, 4);
        int[] unknown = {-1, 2, 40, HIGH, LOW};
        for (int p : unknown) due("move(" + p + ", 1, 1)", x.move(p, 1, 1), -1);
        due("move(2, -10001, 0), below too", x.move(2, -10001, 0), -1);
        due("move(2, 10001, 0), above too", x.move(2, 10001, 0), -1);
        due("move(2, 0, 0), taken too", x.move(2, 0, 0), -1);
        due("count(11)", x.count(11), unknown.length + 3);
        due("point(1, 1), nobody came there", x.point(1, 1), 2);
    }

    private void moveBelow() {
        ledger.clause(4, "-4");
        SignBench x = Benches.of(0, 0);
        due("move(0, -10001, 0)", x.move(0, -10001, 0), -4);
        due("move(0, 0, -10001)", x.move(0, 0, -10001), -4);
        due("move(0, 10001, -10001)", x.move(0, 10001, -10001), -4);
        due("move(0, LOW, HIGH)", x.move(0, LOW, HIGH), -4);
        due("count(14)", x.count(14), 4);
        due("pointOf(0, 1)", x.pointOf(0, 1), 0);
    }

    private void moveAbove() {
        ledger.clause(4, "-6");
        SignBench x = Benches.of(0, 0);
        due("move(0, 10001, 0)", x.move(0, 10001, 0), -6);
        due("move(0, 0, 10001)", x.move(0, 0, 10001), -6);
        due("move(0, HIGH, HIGH)", x.move(0, HIGH, HIGH), -6);
        due("count(16)", x.count(16), 3);
        due("pointOf(0, 0)", x.pointOf(0, 0), 0);
    }

    private void moveTaken() {
        ledger.clause(4, "-5 (not its own place)");
        SignBench x = Benches.of(0, 0, 4, 4, 7, 7);
        due("move(0, 4, 4)", x.move(0, 4, 4), -5);
        due("move(1, 0, 0)", x.move(1, 0, 0), -5);
        due("count(15)", x.count(15), 2);
        due("move(0, 0, 0), its own", x.move(0, 0, 0), 1);
        due("move(1, 4, 4), its own", x.move(1, 4, 4), 1);
        due("count(15)", x.count(15), 2);
        x.drop(2);
        due("move(0, 7, 7), where one is gone", x.move(0, 7, 7), 1);
        due("move(1, 0, 0), whence one moved", x.move(1, 0, 0), 1);
        due("move(1, 7, 7), whither one moved", x.move(1, 7, 7), -5);
    }

    private void pointOfPlace() {
        ledger.clause(5, "Of a POINT that is there: 0 x, 1 y,");
        SignBench x = Benches.of(-10000, 10000, 10000, -10000, -9, -1);
        due("pointOf(0, 0)", x.pointOf(0, 0), -10000);
        due("pointOf(0, 1)", x.pointOf(0, 1), 10000);
        due("pointOf(1, 0)", x.pointOf(1, 0), 10000);
        due("pointOf(1, 1)", x.pointOf(1, 1), -10000);
        due("pointOf(2, 0), no refusal", x.pointOf(2, 0), -9);
        due("pointOf(2, 1), no refusal", x.pointOf(2, 1), -1);
        due("count(11)", x.count(11), 0);
    }

    private void pointOfTriangles() {
        ledger.clause(5, "2 how many TRIANGLES of THE DRAWING it has,");
        due("flat ones", Benches.onLine(40).pointOf(0, 2), 0);
        due("one alone", Benches.of(0, 0).pointOf(0, 2), 0);
        due("three", Benches.of(0, 0, 1, 0, 0, 1).pointOf(2, 2), 1);
        SignBench square = Benches.square();
        due("the least of a ring", square.pointOf(0, 2), 2);
        due("another of a ring", square.pointOf(1, 2), 1);
        due("of a ring of 40", Benches.onCircle(40).pointOf(0, 2), 38);
        SignBench middle = Benches.onCircle(39);
        middle.point(0, 0);
        due("the middle, 39 around it", middle.pointOf(39, 2), 39);
        due("one of those around", middle.pointOf(0, 2), 2);
    }

    private void pointOfCorner() {
        ledger.clause(5, "3 1 if it is a corner of THE HULL");
        SignBench x = Benches.of(0, 0, 4, 0, 4, 4, 0, 4, 2, 0, 2, 1);
        due("a corner", x.pointOf(3, 3), 1);
        due("on a side", x.pointOf(4, 3), 0);
        due("within", x.pointOf(5, 3), 0);
        x.move(4, 2, -1);
        due("one unit outside", x.pointOf(4, 3), 1);
        due("one alone", Benches.of(7, 7).pointOf(0, 3), 1);
        SignBench line = Benches.of(0, 1, 0, 9, 0, -9);
        due("a line's middle", line.pointOf(0, 3), 0);
        due("a line's end", line.pointOf(1, 3), 1);
        due("a line's other end", line.pointOf(2, 3), 1);
    }

    private void pointOfUnknown() {
        ledger.clause(5, "Refused as told: -1");
        SignBench x = Benches.of(0, 0, 4, 0);
        int[] unknown = {-1, 2, 40, HIGH, LOW};
        for (int p : unknown) due("pointOf(" + p + ", 0)", x.pointOf(p, 0), APART + 1);
        due("pointOf(2, 4), what too", x.pointOf(2, 4), APART + 1);
        due("count(11)", x.count(11), unknown.length + 1);
        due("count(12)", x.count(12), 0);
    }

    private void pointOfOther() {
        ledger.clause(5, "-2");
        SignBench x = Benches.of(0, 0);
        int[] others = {-1, 4, HIGH, LOW};
        for (int what : others) due("pointOf(0, " + what + ")", x.pointOf(0, what), APART + 2);
        due("count(12)", x.count(12), others.length);
    }

    private void turnOfThree() {
        ledger.clause(6, "TURN of three POINTS");
        SignBench x = Benches.of(-1, -1, 1, 1, 10000, 10000, -10000, -10000, 0, 0);
        due("beyond the end", x.turn(0, 1, 2), 0);
        due("ahead of the start", x.turn(0, 1, 3), 0);
        due("between", x.turn(0, 1, 4), 0);
        due("the first again", x.turn(0, 1, 0), 0);
        due("the second again", x.turn(0, 1, 1), 0);
        due("no way at all", x.turn(2, 2, 3), 0);
        due("one three times", x.turn(4, 4, 4), 0);
    }

    private void turnByOneUnit() {
        ledger.term(6, "1 if c lies to the left of the way from a to b, -1 to the right, 0 on its line");
        SignBench x = Benches.of(-10000, -10000, 10000, 9999, -9999, -9999, 9999, 9998, 10000, 10000, 0, 0);
        due("to the left by the least", x.turn(0, 1, 2), 1);
        due("to the right by the least", x.turn(0, 1, 3), -1);
        due("the way back", x.turn(1, 0, 2), -1);
        due("the greatest way, on it", x.turn(0, 4, 5), 0);
        SignBench wide = Benches.of(-10000, -10000, 10000, -10000, 10000, 10000);
        due("the greatest to the left", wide.turn(0, 1, 2), 1);
        due("the greatest to the right", wide.turn(1, 0, 2), -1);
    }

    private void turnUnknown() {
        ledger.clause(6, "Refused as told: -1");
        SignBench x = Benches.of(0, 0, 4, 0, 0, 4);
        due("turn(3, 1, 2)", x.turn(3, 1, 2), APART + 1);
        due("turn(0, 3, 2)", x.turn(0, 3, 2), APART + 1);
        due("turn(0, 1, 3)", x.turn(0, 1, 3), APART + 1);
        due("turn(-1, 1, 2)", x.turn(-1, 1, 2), APART + 1);
        due("turn(0, LOW, 2)", x.turn(0, LOW, 2), APART + 1);
        due("turn(0, 1, HIGH)", x.turn(0, 1, HIGH), APART + 1);
        due("turn(-1, -1, -1)", x.turn(-1, -1, -1), APART + 1);
        due("count(11)", x.count(11), 7);
    }

    private void roundOfFour() {
        ledger.clause(7, "ROUND of four POINTS");
        SignBench x = Benches.of(0, 0, 4, 0, 4, 4, 0, 4, 2, 2);
        due("the last on the circle", x.round(0, 1, 2, 3), 0);
        due("the last is the first", x.round(0, 1, 2, 0), 0);
        due("the last is the second", x.round(0, 1, 2, 1), 0);
        due("the last is the third", x.round(0, 1, 2, 2), 0);
        due("within, against the clock", x.round(0, 1, 2, 4), 1);
        due("within, with the clock", x.round(2, 1, 0, 4), 1);
    }

    private void roundByOneUnit() {
        ledger.term(7, "1 if d lies within the circle through a, b, c, -1 without, 0 on it");
        SignBench x = Benches.of(-10000, -10000, 10000, -10000, 10000, 10000, -10000, 10000, -10000, 9999, -9999, 10000);
        due("the greatest circle, on it", x.round(0, 1, 2, 3), 0);
        due("one unit within", x.round(0, 1, 2, 4), 1);
        due("one unit within, with the clock", x.round(0, 2, 1, 4), 1);
        due("one unit within the other way", x.round(2, 0, 1, 5), 1);
        due("one unit without", x.round(0, 1, 4, 3), -1);
        due("one unit without, with the clock", x.round(0, 4, 1, 3), -1);
        SignBench small = Benches.of(0, 0, 1, 0, 1, 1, 0, 1, -1, 0, 1, -1);
        due("the least circle, on it", small.round(0, 1, 2, 3), 0);
        due("beside the least circle", small.round(0, 1, 2, 4), -1);
        due("beside the least circle", small.round(2, 1, 0, 5), -1);
    }

    /** The three lie on one line but for the least turn, so the circle is almost a line itself. */
    private void roundOfTheFlattest() {
        ledger.term(7, "TURN of a, b, c being not 0");
        SignBench x = Benches.of(-10000, -10000, 10000, 9999, -9999, -9999, 10000, 10000, 10000, 9998, 9999, 9998, 0, 0, 0, -1);
        due("round(0, 1, 2, 3)", x.round(0, 1, 2, 3), -1);
        due("round(0, 1, 2, 4)", x.round(0, 1, 2, 4), 1);
        due("round(0, 1, 2, 5)", x.round(0, 1, 2, 5), 1);
        due("round(0, 1, 2, 6)", x.round(0, 1, 2, 6), -1);
        due("round(0, 1, 2, 7)", x.round(0, 1, 2, 7), 1);
        due("round(1, 0, 2, 3)", x.round(1, 0, 2, 3), -1);
        due("round(1, 0, 2, 5)", x.round(1, 0, 2, 5), 1);
    }

    private void roundUnknown() {
        ledger.clause(7, "Refused as told: -1");
        SignBench x = Benches.of(0, 0, 4, 0, 0, 4, 8, 0);
        due("round(4, 1, 2, 3)", x.round(4, 1, 2, 3), APART + 1);
        due("round(0, -1, 2, 3)", x.round(0, -1, 2, 3), APART + 1);
        due("round(0, 1, HIGH, 3)", x.round(0, 1, HIGH, 3), APART + 1);
        due("round(0, 1, 2, LOW)", x.round(0, 1, 2, LOW), APART + 1);
        due("round(0, 1, 3, 4), a line too", x.round(0, 1, 3, 4), APART + 1);
        due("count(11)", x.count(11), 5);
        due("count(13)", x.count(13), 0);
    }

    private void roundOnALine() {
        ledger.clause(7, "-3 TURN of the first three is 0");
        SignBench x = Benches.of(0, 0, 4, 0, 8, 0, 0, 4);
        due("round(0, 1, 2, 3)", x.round(0, 1, 2, 3), APART + 3);
        due("round(0, 0, 1, 3)", x.round(0, 0, 1, 3), APART + 3);
        due("round(0, 3, 0, 1)", x.round(0, 3, 0, 1), APART + 3);
        due("round(3, 0, 0, 1)", x.round(3, 0, 0, 1), APART + 3);
        due("round(0, 0, 0, 0)", x.round(0, 0, 0, 0), APART + 3);
        due("count(13)", x.count(13), 5);
        due("round(0, 1, 3, 2)", x.round(0, 1, 3, 2), -1);
    }
}
