/** Promises 8 to 14: the hull and the drawing, and the terms that they lean on. */
final class DrawingBoundaries {
    private static final int APART = Ledger.APART;
    private static final int LOW = Ledger.LOW;
    private static final int HIGH = Ledger.HIGH;

    private final Ledger ledger;

    DrawingBoundaries(Ledger ledger) {
        this.ledger = ledger;
    }

    void run() {
        hullWithoutPoints();
        hullSizes();
        hullSides();
        hullOfALine();
        cornerOrder();
        cornerFirst();
        cornerOfALine();
        cornerOfOne();
        cornerNone();
        areaSizes();
        trianglesFlat();
        trianglesMost();
        circleEmpty();
        trianglesFillTheHull();
        trianglePoints();
        triangleNumbers();
        triangleOfARing();
        triangleBeyond();
        triangleNoneBeyond();
        triangleUnknown();
        triangleOther();
        ringSizes();
        ringByOneUnit();
        ringUnknown();
        edges();
        edgeOverAPoint();
        edgeUnknown();
    }

    private void due(String call, long got, long want) {
        ledger.due(call, got, want);
    }

    private void dueTriangle(SignBench x, int t, int... want) {
        for (int what = 0; what < want.length; what++) {
            due("triangle(" + t + ", " + what + ")", x.triangle(t, what), want[what]);
        }
    }

    private void hullWithoutPoints() {
        ledger.clause(8, "(0 without POINTS)");
        SignBench x = new SignBench();
        due("hull()", x.hull(), 0);
        x.point(0, 0);
        x.drop(0);
        due("hull(), the only one gone", x.hull(), 0);
    }

    private void hullSizes() {
        ledger.clause(8, "How many corners THE HULL has");
        due("three, the least triangle", Benches.of(0, 0, 1, 0, 0, 1).hull(), 3);
        due("three, almost on a line", Benches.of(-10000, -10000, 10000, 9999, -9999, -9999).hull(), 3);
        due("forty corners", Benches.onCurve(40).hull(), 40);
        due("forty on a circle", Benches.onCircle(40).hull(), 40);
        due("forty, three corners", Benches.fullest().hull(), 3);
        due("four at the bounds", Benches.of(10000, 10000, -10000, 10000, 10000, -10000, -10000, -10000).hull(), 4);
    }

    private void hullSides() {
        ledger.term(8, "(POINTS on its sides are no corners)");
        SignBench x = Benches.of(0, 0, 4, 0, 4, 4, 0, 4, 0, 2, 0, 1, 2, 0, 3, 0, 4, 1, 4, 3, 1, 4, 3, 4);
        due("two on each side", x.hull(), 4);
        due("area()", x.area(), 32);
        SignBench slanted = Benches.of(-10000, -10000, 10000, 9998, -10000, 9998, 0, -1);
        due("in the middle of the longest side", slanted.hull(), 3);
        slanted.move(3, 0, -2);
        due("one unit outside", slanted.hull(), 4);
        slanted.move(3, 0, 0);
        due("one unit within", slanted.hull(), 3);
    }

    private void hullOfALine() {
        ledger.term(8, "Of FLAT ones: the two ends of the line");
        due("two", Benches.of(1, 1, 0, 0).hull(), 2);
        due("three", Benches.of(1, 1, 0, 0, 2, 2).hull(), 2);
        due("forty", Benches.onLine(40).hull(), 2);
        due("an upright one", Benches.of(5, 1, 5, -1, 5, 0).hull(), 2);
        due("a level one", Benches.of(1, 5, -1, 5, 0, 5).hull(), 2);
    }

    private void cornerOrder() {
        ledger.clause(9, "Corner i of THE HULL");
        SignBench x = Benches.of(4, 4, 4, 0, 0, 4, 0, 0, 2, 2);
        int[] want = {3, 1, 0, 2};
        for (int i = 0; i < want.length; i++) due("corner(" + i + ")", x.corner(i), want[i]);
        SignBench curve = Benches.onCurve(40);
        due("corner(0) of 40", curve.corner(0), 0);
        due("corner(39) of 40", curve.corner(39), 39);
        due("corner(40) of 40", curve.corner(40), -9);
    }

    private void cornerFirst() {
        ledger.term(9, "from the one of the least x, of several the least y, on");
        SignBench x = Benches.of(0, 9, 0, 5, 0, -9, 7, -10000, 7, 10000);
        due("corner(0), three of the least x", x.corner(0), 2);
        due("corner(1)", x.corner(1), 3);
        due("corner(2)", x.corner(2), 4);
        due("corner(3), the last", x.corner(3), 0);
        x.point(-1, 10000);
        due("corner(0), one of a lesser x", x.corner(0), 5);
        due("corner(1)", x.corner(1), 2);
    }

    private void cornerOfALine() {
        ledger.term(9, "the one of the least x (y) first");
        SignBench falling = Benches.of(0, 0, 3, -3, -3, 3);
        due("corner(0), the least x", falling.corner(0), 2);
        due("corner(1)", falling.corner(1), 1);
        due("corner(2)", falling.corner(2), -9);
        SignBench upright = Benches.of(5, 10000, 5, 0, 5, -10000);
        due("corner(0), the least y of one x", upright.corner(0), 2);
        due("corner(1)", upright.corner(1), 0);
        due("corner(2)", upright.corner(2), -9);
        SignBench two = Benches.of(1, -1, 1, -2);
        due("corner(0) of two", two.corner(0), 1);
        due("corner(1) of two", two.corner(1), 0);
    }

    private void cornerOfOne() {
        ledger.term(9, "of one POINT that one");
        SignBench x = Benches.of(3, 3, 9, 9);
        x.drop(0);
        due("hull()", x.hull(), 1);
        due("corner(0)", x.corner(0), 1);
        due("corner(1)", x.corner(1), -9);
    }

    private void cornerNone() {
        ledger.clause(9, "-9 if there is none");
        due("corner(0) without points", new SignBench().corner(0), -9);
        SignBench x = Benches.of(0, 0, 4, 0, 0, 4, 1, 1);
        int[] none = {-1, 3, 4, HIGH, LOW};
        for (int i : none) due("corner(" + i + ")", x.corner(i), -9);
        due("corner(2), the last", x.corner(2), 2);
        for (int what = 11; what <= 16; what++) due("count(" + what + "), no refusal", x.count(what), 0);
    }

    private void areaSizes() {
        ledger.clause(10, "Twice the AREA of THE HULL");
        due("no points", new SignBench().area(), 0);
        due("one", Benches.of(9, 9).area(), 0);
        due("two", Benches.of(-10000, -10000, 10000, 10000).area(), 0);
        due("forty on a line", Benches.onLine(40).area(), 0);
        due("the least", Benches.of(0, 0, 1, 0, 0, 1).area(), 1);
        due("the longest of the least", Benches.of(-10000, -10000, 10000, 9999, -9999, -9999).area(), 1);
        due("the greatest", Benches.of(10000, -10000, -10000, -10000, 10000, 10000, -10000, 10000).area(), 800000000L);
        SignBench x = Benches.of(10000, -10000, -10000, -10000, 10000, 10000, -10000, 10000);
        x.drop(0);
        due("half of the greatest", x.area(), 400000000L);
    }

    private void trianglesFlat() {
        ledger.clause(11, "(0 if FLAT)");
        SignBench x = new SignBench();
        due("no points", x.triangles(), 0);
        x.point(0, 0);
        due("one", x.triangles(), 0);
        x.point(1, 1);
        due("two", x.triangles(), 0);
        x.point(2, 2);
        due("three on a line", x.triangles(), 0);
        x.point(2, 1);
        due("one off the line", x.triangles(), 2);
        x.drop(3);
        due("that one gone", x.triangles(), 0);
        due("forty on a line", Benches.onLine(40).triangles(), 0);
    }

    private void trianglesMost() {
        ledger.clause(11, "How many TRIANGLES THE DRAWING has");
        due("the least", Benches.of(0, 0, 1, 0, 0, 1).triangles(), 1);
        due("the most", Benches.fullest().triangles(), 75);
        due("forty corners", Benches.onCurve(40).triangles(), 38);
        due("forty on a circle", Benches.onCircle(40).triangles(), 38);
        SignBench line = Benches.onLine(39);
        line.point(10000, 10000);
        due("39 on a line, one off it", line.triangles(), 38);
        SignBench flattest = Benches.of(-10000, -10000, 10000, 9999, -9999, -9999);
        due("three, almost on a line", flattest.triangles(), 1);
    }

    private void circleEmpty() {
        ledger.term(11, "a CIRCLE is one through three POINTS or more, no POINT within it");
        SignBench x = Benches.of(10, 0, 0, 0, 10, 10, 0, 10);
        due("four on one circle", x.triangles(), 2);
        due("edge(0, 3), from the least number", x.edge(0, 3), 1);
        x.move(3, 0, 9);
        due("one unit within: edge(0, 3)", x.edge(0, 3), 1);
        x.move(3, 0, 11);
        due("one unit without: edge(0, 3)", x.edge(0, 3), 0);
        due("one unit without: edge(1, 2)", x.edge(1, 2), 1);
        x.move(3, -1, 10);
        due("one unit without: edge(1, 2)", x.edge(1, 2), 1);
        SignBench wide = Benches.of(10000, 10000, -10000, -10000, 10000, -10000, -10000, 10000);
        due("the greatest circle: edge(0, 1)", wide.edge(0, 1), 1);
        wide.move(3, -9999, 10000);
        due("one unit within: edge(2, 3)", wide.edge(2, 3), 1);
        due("one unit within: edge(0, 1)", wide.edge(0, 1), 0);
    }

    private void trianglesFillTheHull() {
        ledger.term(11, "(They fill THE HULL.)");
        dueFilled(Benches.fullest(), 40);
        dueFilled(Benches.onCircle(40), 40);
        dueFilled(Benches.of(0, 0, 1, 0, 2, 0, 0, 1, 1, 1, 2, 1, 0, 2, 1, 2, 2, 2), 9);
    }

    private void dueFilled(SignBench x, int points) {
        long[] xs = new long[points];
        long[] ys = new long[points];
        for (int p = 0; p < points; p++) {
            xs[p] = x.pointOf(p, 0);
            ys[p] = x.pointOf(p, 1);
        }
        long sum = 0;
        int all = x.triangles();
        for (int t = 0; t < all; t++) {
            int a = x.triangle(t, 0), b = x.triangle(t, 1), c = x.triangle(t, 2);
            long twice = (xs[b] - xs[a]) * (ys[c] - ys[a]) - (ys[b] - ys[a]) * (xs[c] - xs[a]);
            due("triangle " + t + " is against the clock", twice > 0 ? 1 : 0, 1);
            sum += twice;
        }
        due("all triangles' areas", sum, x.area());
    }

    private void trianglePoints() {
        ledger.clause(12, "Of a TRIANGLE of THE DRAWING: 0 to 2 its POINTS,");
        dueTriangle(Benches.of(0, 0, 4, 0, 0, 4), 0, 0, 1, 2);
        dueTriangle(Benches.of(0, 0, 0, 4, 4, 0), 0, 0, 2, 1);
        dueTriangle(Benches.of(4, 0, 0, 0, 0, 4), 0, 0, 2, 1);
        SignBench x = Benches.of(9, 9, 4, 0, 0, 4, 0, 0);
        x.drop(0);
        dueTriangle(x, 0, 1, 2, 3);
    }

    private void triangleNumbers() {
        ledger.term(12, "told by its POINTS' numbers, the least ahead, against the clock");
        SignBench x = Benches.of(2, 2, 0, 0, 4, 0, 4, 4, 0, 4);
        dueTriangle(x, 0, 0, 1, 2);
        dueTriangle(x, 1, 0, 2, 3);
        ledger.term(12, "they are numbered by the first POINT, then the second, then the third");
        dueTriangle(x, 2, 0, 3, 4);
        dueTriangle(x, 3, 0, 4, 1);
        SignBench most = Benches.fullest();
        int before = -1;
        for (int t = 0; t < 75; t++) {
            int a = most.triangle(t, 0), b = most.triangle(t, 1), c = most.triangle(t, 2);
            due("triangle " + t + " has the least ahead", a < b && a < c ? 1 : 0, 1);
            due("triangle " + t + " comes after the one before", a * 1600 + b * 40 + c > before ? 1 : 0, 1);
            before = a * 1600 + b * 40 + c;
        }
    }

    private void triangleOfARing() {
        ledger.term(12, "from the POINT of the least number of the RING, with each two others of it that are next to one another around it");
        SignBench x = Benches.of(4, 4, 0, 0, 4, 0, 0, 4);
        dueTriangle(x, 0, 0, 1, 2);
        dueTriangle(x, 1, 0, 3, 1);
        x.drop(0);
        x.point(4, 4);
        dueTriangle(x, 0, 1, 2, 4);
        dueTriangle(x, 1, 1, 4, 3);
        SignBench ring = Benches.onCircle(40);
        for (int t = 0; t < 38; t++) due("triangle(" + t + ", 0) of a ring of 40", ring.triangle(t, 0), 0);
        ring.drop(0);
        for (int t = 0; t < 37; t++) due("triangle(" + t + ", 0) without 0", ring.triangle(t, 0), 1);
    }

    private void triangleBeyond() {
        ledger.clause(12, "3 to 5 the TRIANGLE beyond the side across from that POINT");
        SignBench x = Benches.of(2, 2, 0, 0, 4, 0, 4, 4, 0, 4);
        dueTriangle(x, 0, 0, 1, 2, -9, 1, 3);
        dueTriangle(x, 1, 0, 2, 3, -9, 2, 0);
        dueTriangle(x, 2, 0, 3, 4, -9, 3, 1);
        dueTriangle(x, 3, 0, 4, 1, -9, 0, 2);
        SignBench inner = Benches.of(0, 0, 1, 4, -4, 0, 3, -3);
        inner.point(0, 50);
        inner.point(-50, -50);
        inner.point(50, -50);
        int all = inner.triangles();
        for (int t = 0; t < all; t++) {
            for (int side = 3; side < 6; side++) dueBack(inner, t, side);
        }
    }

    /** The triangle beyond has the same side, and this one beyond it. */
    private void dueBack(SignBench x, int t, int side) {
        int beyond = x.triangle(t, side);
        if (beyond == -9) return;
        int back = 0;
        for (int other = 3; other < 6; other++) {
            int across = x.triangle(beyond, other - 3);
            if (x.triangle(beyond, other) == t && across != x.triangle(t, 0) && across != x.triangle(t, 1)
                    && across != x.triangle(t, 2)) back++;
        }
        due("ways back from " + beyond + " to " + t, back, 1);
    }

    private void triangleNoneBeyond() {
        ledger.clause(12, "(-9)");
        dueTriangle(Benches.of(0, 0, 4, 0, 0, 4), 0, 0, 1, 2, -9, -9, -9);
        SignBench x = Benches.square();
        dueTriangle(x, 0, 0, 1, 2, -9, 1, -9);
        dueTriangle(x, 1, 0, 2, 3, -9, -9, 0);
        due("count(11), no refusal", x.count(11), 0);
    }

    private void triangleUnknown() {
        ledger.clause(12, "Refused as told: -1");
        SignBench x = Benches.square();
        int[] unknown = {-1, 2, 75, 80, HIGH, LOW};
        for (int t : unknown) due("triangle(" + t + ", 0)", x.triangle(t, 0), APART + 1);
        due("triangle(2, 6), what too", x.triangle(2, 6), APART + 1);
        due("count(11)", x.count(11), unknown.length + 1);
        due("count(12)", x.count(12), 0);
        due("triangle(0, 0) of flat ones", Benches.of(0, 0, 1, 1).triangle(0, 0), APART + 1);
        SignBench most = Benches.fullest();
        due("triangle(74, 0) of 75, refused", most.triangle(74, 0) >= APART ? 1 : 0, 0);
        due("triangle(75, 0) of 75", most.triangle(75, 0), APART + 1);
    }

    private void triangleOther() {
        ledger.clause(12, "-2");
        SignBench x = Benches.square();
        int[] others = {-1, 6, HIGH, LOW};
        for (int what : others) due("triangle(0, " + what + ")", x.triangle(0, what), APART + 2);
        due("triangle(0, 5)", x.triangle(0, 5), -9);
        due("count(12)", x.count(12), others.length);
    }

    private void ringSizes() {
        ledger.clause(13, "How many POINTS the RING of a TRIANGLE's CIRCLE has");
        due("the least", Benches.of(0, 0, 1, 0, 0, 1).ring(0), 3);
        SignBench square = Benches.square();
        due("four", square.ring(0), 4);
        due("four, the last triangle", square.ring(1), 4);
        SignBench forty = Benches.onCircle(40);
        due("forty", forty.ring(0), 40);
        due("forty, the last triangle", forty.ring(37), 40);
        forty.drop(7);
        due("one of them gone", forty.ring(36), 39);
    }

    private void ringByOneUnit() {
        ledger.term(13, "All POINTS on a CIRCLE are its RING");
        SignBench x = Benches.of(10000, 10000, -10000, -10000, 10000, -10000, -10000, 10000);
        due("the greatest", x.ring(0), 4);
        x.move(3, -9999, 10000);
        due("one unit off", x.ring(0), 3);
        due("one unit off, the other triangle", x.ring(1), 3);
        x.move(3, -10000, 10000);
        x.point(0, 0);
        due("one in the middle", x.ring(0), 3);
    }

    private void ringUnknown() {
        ledger.clause(13, "-1");
        SignBench x = Benches.square();
        int[] unknown = {-1, 2, 80, HIGH, LOW};
        for (int t : unknown) due("ring(" + t + ")", x.ring(t), -1);
        due("count(11)", x.count(11), unknown.length);
        due("ring(0) of flat ones", Benches.onLine(40).ring(0), -1);
        due("ring(0) without points", new SignBench().ring(0), -1);
    }

    private void edges() {
        ledger.clause(14, "Whether two POINTS are an EDGE of THE DRAWING: 1, 0");
        SignBench x = Benches.square();
        due("edge(0, 2), between two triangles", x.edge(0, 2), 1);
        due("edge(2, 0)", x.edge(2, 0), 1);
        due("edge(3, 2), one triangle alone", x.edge(3, 2), 1);
        due("edge(2, 3)", x.edge(2, 3), 1);
        due("edge(1, 3)", x.edge(1, 3), 0);
        due("edge(3, 1)", x.edge(3, 1), 0);
        due("two alone", Benches.of(0, 0, 4, 0).edge(0, 1), 0);
        due("three on a line", Benches.of(0, 0, 4, 0, 8, 0).edge(0, 1), 0);
    }

    private void edgeOverAPoint() {
        ledger.term(14, "An EDGE is a side of a TRIANGLE");
        SignBench x = Benches.of(0, 0, 4, 0, 2, 0, 2, 3);
        due("edge(0, 1), a point between", x.edge(0, 1), 0);
        due("edge(0, 2)", x.edge(0, 2), 1);
        due("edge(2, 1)", x.edge(2, 1), 1);
        due("edge(2, 3)", x.edge(2, 3), 1);
        x.drop(2);
        due("edge(0, 1), none between", x.edge(0, 1), 1);
    }

    private void edgeUnknown() {
        ledger.clause(14, "-1 (also for one)");
        SignBench x = Benches.square();
        due("edge(1, 1)", x.edge(1, 1), -1);
        due("edge(0, 4)", x.edge(0, 4), -1);
        due("edge(4, 0)", x.edge(4, 0), -1);
        due("edge(-1, 0)", x.edge(-1, 0), -1);
        due("edge(0, HIGH)", x.edge(0, HIGH), -1);
        due("edge(LOW, LOW)", x.edge(LOW, LOW), -1);
        due("edge(40, 0)", x.edge(40, 0), -1);
        due("count(11)", x.count(11), 7);
        SignBench full = Benches.onCurve(40);
        due("edge(39, 40), full", full.edge(39, 40), -1);
        due("edge(38, 39), full", full.edge(38, 39), 1);
    }
}
