/** Promises 15 to 18: places, ways and what lies around, and the terms that they lean on. */
final class PlaceBoundaries {
    private static final int APART = Ledger.APART;
    private static final int LOW = Ledger.LOW;
    private static final int HIGH = Ledger.HIGH;

    private final Ledger ledger;

    PlaceBoundaries(Ledger ledger) {
        this.ledger = ledger;
    }

    void run() {
        whereOnSides();
        whereAtTheBounds();
        whereOutside();
        whereFlat();
        whereBelow();
        whereAbove();
        nearestOfSeveral();
        nearestAtTheBounds();
        nearestWithoutPoints();
        nearestBelow();
        nearestAbove();
        crossInOnePlace();
        crossInAnyOther();
        crossInNone();
        crossByOneUnit();
        crossUnknown();
        crossOfOne();
        aroundOrder();
        aroundFromGreaterX();
        aroundNearerFirst();
        aroundNotSoMany();
        aroundUnknown();
    }

    private void due(String call, long got, long want) {
        ledger.due(call, got, want);
    }

    private void whereOnSides() {
        ledger.term(15, "the TRIANGLE in which it is, on its sides too (of several the least number)");
        SignBench x = Benches.of(2, 2, 0, 0, 4, 0, 4, 4, 0, 4);
        due("where(2, 2), a corner of all four", x.where(2, 2), 0);
        due("where(4, 4), a corner of two", x.where(4, 4), 1);
        due("where(0, 4), a corner of the last two", x.where(0, 4), 2);
        due("where(1, 3), a side of the last two", x.where(1, 3), 2);
        due("where(1, 1), a side of the first and the last", x.where(1, 1), 0);
        due("where(0, 2), a side of one alone", x.where(0, 2), 3);
        due("where(1, 2), within", x.where(1, 2), 3);
    }

    private void whereAtTheBounds() {
        ledger.clause(15, "WHERE");
        SignBench x = Benches.of(-10000, -10000, 10000, -10000, 10000, 10000, -10000, 10000);
        due("where(-10000, -10000)", x.where(-10000, -10000), 0);
        due("where(10000, -10000)", x.where(10000, -10000), 0);
        due("where(10000, 10000)", x.where(10000, 10000), 0);
        due("where(-10000, 10000)", x.where(-10000, 10000), 1);
        due("where(0, 0), between both", x.where(0, 0), 0);
        due("where(0, 1), one unit beyond", x.where(0, 1), 1);
        due("where(9999, 10000)", x.where(9999, 10000), 1);
        due("where(10000, 9999)", x.where(10000, 9999), 0);
    }

    private void whereOutside() {
        ledger.clause(15, "-9 outside");
        SignBench x = Benches.square();
        due("where(-1, 2)", x.where(-1, 2), -9);
        due("where(5, 2)", x.where(5, 2), -9);
        due("where(2, -1)", x.where(2, -1), -9);
        due("where(2, 5)", x.where(2, 5), -9);
        due("where(5, 0), on a side's line", x.where(5, 0), -9);
        due("where(-1, -1), on the inner side's line", x.where(-1, -1), -9);
        due("where(10000, 10000)", x.where(10000, 10000), -9);
        due("where(-10000, -10000)", x.where(-10000, -10000), -9);
        SignBench flattest = Benches.of(-10000, -10000, 10000, 9999, -9999, -9999);
        due("where(0, 0), outside the flattest", flattest.where(0, 0), -9);
        due("where(9999, 9998), outside the flattest", flattest.where(9999, 9998), -9);
        due("where(-9999, -9999), its corner", flattest.where(-9999, -9999), 0);
        for (int what = 11; what <= 16; what++) due("count(" + what + "), no refusal", x.count(what), 0);
    }

    private void whereFlat() {
        ledger.clause(15, ", or FLAT");
        due("without points", new SignBench().where(0, 0), -9);
        due("where one is, alone", Benches.of(3, 3).where(3, 3), -9);
        due("between two", Benches.of(0, 0, 4, 0).where(2, 0), -9);
        due("on the line of forty", Benches.onLine(40).where(0, 0), -9);
        SignBench x = Benches.of(0, 0, 4, 0, 0, 4);
        due("not flat", x.where(1, 1), 0);
        x.drop(2);
        due("flat again", x.where(1, 0), -9);
    }

    private void whereBelow() {
        ledger.clause(15, "Refused as told: -4");
        SignBench x = Benches.square();
        due("where(-10001, 0)", x.where(-10001, 0), APART + 4);
        due("where(0, -10001)", x.where(0, -10001), APART + 4);
        due("where(LOW, LOW)", x.where(LOW, LOW), APART + 4);
        due("where(10001, -10001), above too", x.where(10001, -10001), APART + 4);
        due("count(14)", x.count(14), 4);
        due("where(-10001, 0) of none", new SignBench().where(-10001, 0), APART + 4);
    }

    private void whereAbove() {
        ledger.clause(15, "-6");
        SignBench x = Benches.square();
        due("where(10001, 0)", x.where(10001, 0), APART + 6);
        due("where(0, 10001)", x.where(0, 10001), APART + 6);
        due("where(HIGH, HIGH)", x.where(HIGH, HIGH), APART + 6);
        due("count(16)", x.count(16), 3);
        due("where(10001, 0) of none", new SignBench().where(10001, 0), APART + 6);
    }

    private void nearestOfSeveral() {
        ledger.term(16, "the POINT whose distance is least, of several the least number");
        SignBench x = Benches.of(4, 4, 0, 4, 4, 0, 0, 0);
        due("nearest(2, 2), four alike", x.nearest(2, 2), 0);
        due("nearest(0, 2), two alike", x.nearest(0, 2), 1);
        due("nearest(0, 1), one nearer", x.nearest(0, 1), 3);
        due("nearest(0, 0), its own place", x.nearest(0, 0), 3);
        x.drop(0);
        due("nearest(2, 2), three alike", x.nearest(2, 2), 1);
        SignBench five = Benches.of(5, 0, 3, 4, 0, -5);
        due("nearest(0, 0), alike but not by one way", five.nearest(0, 0), 0);
        five.move(1, 3, 3);
        due("nearest(0, 0)", five.nearest(0, 0), 1);
    }

    private void nearestAtTheBounds() {
        ledger.clause(16, "NEAREST");
        SignBench x = Benches.of(10000, 10000);
        due("the farthest there is", x.nearest(-10000, -10000), 0);
        x.point(9999, 10000);
        due("one unit nearer", x.nearest(-10000, -10000), 1);
        x.point(10000, 9999);
        due("alike at the farthest", x.nearest(-10000, -10000), 1);
        due("nearest(10000, 10000)", x.nearest(10000, 10000), 0);
    }

    private void nearestWithoutPoints() {
        ledger.clause(16, "-9 without POINTS");
        SignBench x = new SignBench();
        due("nearest(0, 0)", x.nearest(0, 0), -9);
        due("nearest(-10000, 10000)", x.nearest(-10000, 10000), -9);
        x.point(0, 0);
        x.drop(0);
        due("nearest(0, 0), the only one gone", x.nearest(0, 0), -9);
        for (int what = 11; what <= 16; what++) due("count(" + what + "), no refusal", x.count(what), 0);
    }

    private void nearestBelow() {
        ledger.clause(16, "Refused as told: -4");
        SignBench x = Benches.square();
        due("nearest(-10001, 0)", x.nearest(-10001, 0), APART + 4);
        due("nearest(0, -10001)", x.nearest(0, -10001), APART + 4);
        due("nearest(HIGH, LOW), above too", x.nearest(HIGH, LOW), APART + 4);
        due("count(14)", x.count(14), 3);
        due("nearest(0, -10001) of none", new SignBench().nearest(0, -10001), APART + 4);
    }

    private void nearestAbove() {
        ledger.clause(16, "-6");
        SignBench x = Benches.square();
        due("nearest(10001, 0)", x.nearest(10001, 0), APART + 6);
        due("nearest(0, 10001)", x.nearest(0, 10001), APART + 6);
        due("nearest(HIGH, HIGH)", x.nearest(HIGH, HIGH), APART + 6);
        due("count(16)", x.count(16), 3);
        due("nearest(0, 10001) of none", new SignBench().nearest(0, 10001), APART + 6);
    }

    private void crossInOnePlace() {
        ledger.term(17, "2 if they meet in one place that is no end");
        SignBench x = Benches.of(0, 0, 4, 4, 0, 4, 4, 0);
        due("cross(0, 1, 2, 3)", x.cross(0, 1, 2, 3), 2);
        due("cross(1, 0, 2, 3)", x.cross(1, 0, 2, 3), 2);
        due("cross(3, 2, 0, 1)", x.cross(3, 2, 0, 1), 2);
        SignBench least = Benches.of(0, 0, 1, 1, 0, 1, 1, 0);
        due("the least ways", least.cross(0, 1, 2, 3), 2);
        SignBench greatest = Benches.of(-10000, -10000, 10000, 10000, -10000, 10000, 10000, -10000);
        due("the greatest ways", greatest.cross(0, 1, 2, 3), 2);
    }

    private void crossInAnyOther() {
        ledger.term(17, "1 if they have any other place together");
        SignBench x = Benches.of(0, 0, 8, 0, 4, 0, 4, 4, 12, 0);
        due("an end on the way", x.cross(0, 1, 2, 3), 1);
        due("an end on the way, the other way ahead", x.cross(3, 2, 1, 0), 1);
        due("an end on an end", x.cross(0, 2, 2, 3), 1);
        due("an end on an end, one line", x.cross(0, 2, 2, 1), 1);
        due("the same way", x.cross(0, 1, 0, 1), 1);
        due("the same way back", x.cross(0, 1, 1, 0), 1);
        due("one within the other", x.cross(0, 4, 2, 1), 1);
        due("one within the other, from one end", x.cross(0, 4, 0, 2), 1);
        due("each over the other's end", x.cross(0, 1, 2, 4), 1);
        SignBench sides = Benches.of(0, 0, 8, 0, 4, 0, 4, 4, 4, -4);
        due("from the left onto the way", sides.cross(0, 1, 3, 2), 1);
        due("from the right onto the way", sides.cross(0, 1, 4, 2), 1);
        due("from the way to the left", sides.cross(0, 1, 2, 3), 1);
        due("from the way to the right", sides.cross(0, 1, 2, 4), 1);
        due("the other ahead, onto the way", sides.cross(4, 2, 1, 0), 1);
        due("the other ahead, from the way", sides.cross(2, 4, 0, 1), 1);
        SignBench upright = Benches.of(0, 0, 0, 8, 0, 4, 0, 12);
        due("each over the other's end, upright", upright.cross(0, 1, 2, 3), 1);
    }

    private void crossInNone() {
        ledger.term(17, "0 none");
        SignBench x = Benches.of(0, 0, 2, 0, 3, 0, 9, 0, 0, 1, 2, 1, 5, 5, 5, 1);
        due("one line, one unit apart", x.cross(0, 1, 2, 3), 0);
        due("one line, the way back", x.cross(3, 2, 1, 0), 0);
        due("side by side", x.cross(0, 1, 4, 5), 0);
        due("the line alone is met", x.cross(0, 1, 6, 7), 0);
        due("the line alone is met, the other ahead", x.cross(6, 7, 0, 3), 0);
        SignBench upright = Benches.of(0, 0, 0, 2, 0, 3, 0, 9);
        due("one upright line, one unit apart", upright.cross(0, 1, 2, 3), 0);
    }

    private void crossByOneUnit() {
        ledger.clause(17, "CROSS of the ways from a to b and c to d");
        SignBench x = Benches.of(-10000, 0, 10000, 0, 0, 10000, 0, 0);
        due("ends on it", x.cross(0, 1, 2, 3), 1);
        x.move(3, 0, -1);
        due("one unit over it", x.cross(0, 1, 2, 3), 2);
        x.move(3, 0, 1);
        due("one unit before it", x.cross(0, 1, 2, 3), 0);
        SignBench wide = Benches.of(-10000, -10000, 10000, 9999, -9999, -9999, 9999, 9998);
        due("almost one line", wide.cross(0, 1, 2, 3), 2);
        due("almost one line, from one end", wide.cross(0, 1, 0, 2), 1);
        due("almost one line, side by side", wide.cross(0, 3, 2, 1), 0);
    }

    private void crossUnknown() {
        ledger.clause(17, "-1");
        SignBench x = Benches.square();
        due("cross(4, 1, 2, 3)", x.cross(4, 1, 2, 3), -1);
        due("cross(0, -1, 2, 3)", x.cross(0, -1, 2, 3), -1);
        due("cross(0, 1, HIGH, 3)", x.cross(0, 1, HIGH, 3), -1);
        due("cross(0, 1, 2, LOW)", x.cross(0, 1, 2, LOW), -1);
        due("cross(40, 40, 40, 40)", x.cross(40, 40, 40, 40), -1);
        due("count(11)", x.count(11), 5);
    }

    private void crossOfOne() {
        ledger.clause(17, "(also if a and b, or c and d, are one)");
        SignBench x = Benches.square();
        due("cross(0, 0, 1, 2)", x.cross(0, 0, 1, 2), -1);
        due("cross(1, 2, 0, 0)", x.cross(1, 2, 0, 0), -1);
        due("cross(0, 0, 0, 0)", x.cross(0, 0, 0, 0), -1);
        due("cross(3, 3, 2, 2)", x.cross(3, 3, 2, 2), -1);
        due("count(11)", x.count(11), 4);
        due("cross(0, 1, 0, 1), two ways of one pair", x.cross(0, 1, 0, 1), 1);
        due("cross(0, 1, 0, 2), a and c are one", x.cross(0, 1, 0, 2), 1);
    }

    private void aroundOrder() {
        ledger.clause(18, "The i-th of all other POINTS around one, by TURNS against the clock");
        SignBench x = Benches.of(1, -1, 0, -1, -1, -1, -1, 0, -1, 1, 0, 1, 1, 1, 1, 0, 0, 0);
        int[] want = {7, 6, 5, 4, 3, 2, 1, 0};
        for (int i = 0; i < want.length; i++) due("around(8, " + i + ")", x.around(8, i), want[i]);
        SignBench forty = Benches.onCurve(40);
        due("around(0, 0) of forty", forty.around(0, 0), 1);
        due("around(0, 38) of forty", forty.around(0, 38), 39);
        due("around(39, 0) of forty", forty.around(39, 0), 0);
        due("around(39, 38) of forty", forty.around(39, 38), 38);
    }

    private void aroundFromGreaterX() {
        ledger.clause(18, "from the way of greater x on");
        SignBench x = Benches.of(-10000, 0, 10000, -1, 10000, 1, 10000, 0);
        due("the way of greater x is the first", x.around(0, 0), 3);
        due("one unit above is the next", x.around(0, 1), 2);
        due("one unit below is the last", x.around(0, 2), 1);
        SignBench back = Benches.of(10000, 0, -10000, -1, -10000, 1, -10000, 0);
        due("one unit above the way back", back.around(0, 0), 2);
        due("the way back", back.around(0, 1), 3);
        due("one unit below the way back", back.around(0, 2), 1);
        SignBench upright = Benches.of(0, 0, 0, -7, 0, 7);
        due("upwards comes first", upright.around(0, 0), 2);
        due("downwards comes after", upright.around(0, 1), 1);
    }

    private void aroundNearerFirst() {
        ledger.clause(18, "(of one way the nearer first)");
        SignBench x = Benches.of(0, 0, 9, 0, 1, 0, -9, 0, -1, 0, 4, 6, 2, 3, -4, -6, -2, -3, 0, 10000, 0, 9999);
        int[] want = {2, 1, 6, 5, 10, 9, 4, 3, 8, 7};
        for (int i = 0; i < want.length; i++) due("around(0, " + i + ")", x.around(0, i), want[i]);
    }

    private void aroundNotSoMany() {
        ledger.clause(18, "-9 if there are not so many");
        due("one alone", Benches.of(5, 5).around(0, 0), -9);
        SignBench x = Benches.square();
        due("around(0, 2), the last", x.around(0, 2), 3);
        int[] none = {3, 4, 39, HIGH, -1, LOW};
        for (int i : none) due("around(0, " + i + ")", x.around(0, i), -9);
        x.drop(3);
        due("around(0, 2), one gone", x.around(0, 2), -9);
        due("around(0, 39) of forty", Benches.onCurve(40).around(0, 39), -9);
        for (int what = 11; what <= 16; what++) due("count(" + what + "), no refusal", x.count(what), 0);
    }

    private void aroundUnknown() {
        ledger.clause(18, "-1");
        SignBench x = Benches.square();
        int[] unknown = {-1, 4, 40, HIGH, LOW};
        for (int p : unknown) due("around(" + p + ", 0)", x.around(p, 0), -1);
        due("around(4, -1), no i too", x.around(4, -1), -1);
        due("around(4, 99), not so many too", x.around(4, 99), -1);
        due("count(11)", x.count(11), unknown.length + 2);
    }
}
