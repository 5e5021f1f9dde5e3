import java.math.BigInteger;

/** For each promise of the document: ordinary calls, the edges that it names, and wrong inputs. */
public final class PromiseTest {
    private static final int APART = 1000000000;
    private static final int LOW = Integer.MIN_VALUE;
    private static final int HIGH = Integer.MAX_VALUE;
    private static int wrong = 0;

    public static void main(String[] args) {
        newObject();
        point();
        pointRoom();
        drop();
        move();
        pointOf();
        turn();
        round();
        roundAtTheBounds();
        hullCornerArea();
        hullOfFlatOnes();
        triangles();
        ringOfTwelve();
        edge();
        where();
        nearest();
        cross();
        around();
        begin();
        beginOnALine();
        beginBesideALine();
        held();
        bad();
        flip();
        settle();
        alike();
        bads();
        count();
        refusalsChangeNothing();
        System.out.println(wrong == 0 ? "all promises hold" : wrong + " answers break a promise");
        if (wrong != 0) System.exit(1);
    }

    private static void due(int promise, String call, long got, long want) {
        if (got != want) {
            wrong++;
            System.out.println("promise " + promise + ": " + call + " answered " + got + ", due is " + want);
        }
    }

    private static SignBench of(int... places) {
        SignBench x = new SignBench();
        for (int i = 0; i + 1 < places.length; i += 2) {
            due(2, "point " + i / 2, x.point(places[i], places[i + 1]), i / 2);
        }
        return x;
    }

    private static void dueTriangle(SignBench x, int t, int... want) {
        for (int what = 0; what < want.length; what++) {
            due(12, "triangle(" + t + ", " + what + ")", x.triangle(t, what), want[what]);
        }
    }

    private static void dueHeld(int promise, SignBench x, int... want) {
        due(26, "count(5)", x.count(5), want.length / 3);
        for (int i = 0; i < want.length; i++) {
            due(promise, "held(" + i / 3 + ", " + i % 3 + ")", x.held(i / 3, i % 3), want[i]);
        }
    }

    private static void newObject() {
        SignBench other = of(0, 0, 3, 0, 0, 3);
        other.begin();
        other.drop(9);
        SignBench x = new SignBench();
        for (int what = 0; what <= 16; what++) {
            due(1, "count(" + what + ")", x.count(what), what == 2 ? 1 : what > 6 && what < 11 ? -9 : 0);
        }
        due(1, "hull()", x.hull(), 0);
        due(1, "triangles()", x.triangles(), 0);
        due(1, "alike()", x.alike(), -3);
    }

    private static void point() {
        SignBench x = of(-10000, 10000, 10000, -10000, 0, 0);
        due(2, "point(-10001, 0)", x.point(-10001, 0), -4);
        due(2, "point(0, -10001)", x.point(0, -10001), -4);
        due(2, "point(10001, -10001)", x.point(10001, -10001), -4);
        due(2, "point(LOW, HIGH)", x.point(LOW, HIGH), -4);
        due(2, "point(10001, 0)", x.point(10001, 0), -6);
        due(2, "point(0, 10001)", x.point(0, 10001), -6);
        due(2, "point(HIGH, 0)", x.point(HIGH, 0), -6);
        due(2, "point(0, 0)", x.point(0, 0), -5);
        due(2, "point(-10000, 10000)", x.point(-10000, 10000), -5);
        x.drop(2);
        due(2, "point(0, 0) where one is gone", x.point(0, 0), 3);
        x.move(3, 7, 7);
        due(2, "point(0, 0) whence one moved", x.point(0, 0), 4);
        due(2, "point(7, 7) whither one moved", x.point(7, 7), -5);
        due(2, "count(14)", x.count(14), 4);
        due(2, "count(15)", x.count(15), 3);
        due(2, "count(16)", x.count(16), 3);
    }

    private static void pointRoom() {
        SignBench x = new SignBench();
        for (int i = 0; i < 40; i++) {
            due(2, "point(i, i * i)", x.point(i, i * i), i);
        }
        x.drop(5);
        due(2, "point(5, 25), the 41st", x.point(5, 25), -6);
        due(2, "point(0, 0), full and taken", x.point(0, 0), -6);
        due(2, "point(0, -10001), full and below", x.point(0, -10001), -4);
        due(3, "drop(40), full", x.drop(40), -1);
        due(2, "count(0)", x.count(0), 40);
        due(2, "count(1)", x.count(1), 39);
        due(4, "move(0, 5, 25), full", x.move(0, 5, 25), 1);
    }

    private static void drop() {
        SignBench x = of(0, 0, 4, 0, 0, 4, 4, 4);
        due(3, "drop(3)", x.drop(3), 1);
        due(3, "drop(3) again", x.drop(3), -1);
        due(3, "drop(-1)", x.drop(-1), -1);
        due(3, "drop(4)", x.drop(4), -1);
        due(3, "drop(40)", x.drop(40), -1);
        due(3, "drop(HIGH)", x.drop(HIGH), -1);
        due(3, "drop(LOW)", x.drop(LOW), -1);
        due(3, "hull()", x.hull(), 3);
        due(3, "triangles()", x.triangles(), 1);
        due(3, "nearest(4, 4)", x.nearest(4, 4), 1);
        due(3, "pointOf(3, 0)", x.pointOf(3, 0), APART + 1);
        due(3, "point(9, 9), no number again", x.point(9, 9), 4);
        x.begin();
        x.drop(4);
        due(3, "count(4)", x.count(4), 1);
    }

    private static void move() {
        SignBench x = of(0, 0, 4, 0, 0, 4);
        x.begin();
        due(4, "move(3, -10001, 0)", x.move(3, -10001, 0), -1);
        due(4, "move(-1, 0, 0)", x.move(-1, 0, 0), -1);
        due(4, "move(0, 10001, -10001)", x.move(0, 10001, -10001), -4);
        due(4, "move(0, -10001, 0)", x.move(0, -10001, 0), -4);
        due(4, "move(0, 0, 10001)", x.move(0, 0, 10001), -6);
        due(4, "move(0, 10001, 0)", x.move(0, 10001, 0), -6);
        due(4, "move(0, 4, 0)", x.move(0, 4, 0), -5);
        due(4, "move(1, 0, 0)", x.move(1, 0, 0), -5);
        due(4, "count(4) after refusals", x.count(4), 0);
        due(4, "pointOf(0, 0)", x.pointOf(0, 0), 0);
        due(4, "move(0, 10000, -10000)", x.move(0, 10000, -10000), 1);
        due(4, "pointOf(0, 0)", x.pointOf(0, 0), 10000);
        due(4, "pointOf(0, 1)", x.pointOf(0, 1), -10000);
        due(4, "count(4)", x.count(4), 1);
        due(4, "alike()", x.alike(), -3);
        x.begin();
        due(4, "move(1, 4, 0), its own place", x.move(1, 4, 0), 1);
        due(4, "count(4)", x.count(4), 1);
        due(4, "count(1)", x.count(1), 3);
        x.drop(2);
        due(4, "move(2, 1, 1), gone", x.move(2, 1, 1), -1);
        due(4, "move(1, 0, 4), where one is gone", x.move(1, 0, 4), 1);
    }

    private static void pointOf() {
        SignBench x = of(0, 0, 4, 0, 4, 4, 0, 4, 2, 1, 2, 0);
        due(5, "pointOf(4, 0)", x.pointOf(4, 0), 2);
        due(5, "pointOf(4, 1)", x.pointOf(4, 1), 1);
        due(5, "pointOf(4, 2)", x.pointOf(4, 2), 5);
        due(5, "pointOf(5, 2)", x.pointOf(5, 2), 2);
        due(5, "pointOf(4, 3)", x.pointOf(4, 3), 0);
        due(5, "pointOf(5, 3), on a side", x.pointOf(5, 3), 0);
        due(5, "pointOf(2, 3)", x.pointOf(2, 3), 1);
        due(5, "pointOf(6, 7)", x.pointOf(6, 7), APART + 1);
        due(5, "pointOf(-1, 0)", x.pointOf(-1, 0), APART + 1);
        due(5, "pointOf(0, 4)", x.pointOf(0, 4), APART + 2);
        due(5, "pointOf(0, -1)", x.pointOf(0, -1), APART + 2);
        SignBench flat = of(-7, -9, 0, 0, 7, 9);
        due(5, "pointOf(0, 0)", flat.pointOf(0, 0), -7);
        due(5, "pointOf(0, 1)", flat.pointOf(0, 1), -9);
        due(5, "pointOf(0, 2) of flat ones", flat.pointOf(0, 2), 0);
        due(5, "pointOf(0, 3), an end", flat.pointOf(0, 3), 1);
        due(5, "pointOf(1, 3), no end", flat.pointOf(1, 3), 0);
        due(5, "count(11)", x.count(11), 2);
        due(5, "count(12)", x.count(12), 2);
    }

    private static void turn() {
        SignBench x = of(-10000, -10000, 10000, 10000, 9999, 10000, 9999, 9998, 0, 0);
        due(6, "turn(0, 1, 2)", x.turn(0, 1, 2), 1);
        due(6, "turn(0, 1, 3)", x.turn(0, 1, 3), -1);
        due(6, "turn(1, 0, 2)", x.turn(1, 0, 2), -1);
        due(6, "turn(0, 1, 4)", x.turn(0, 1, 4), 0);
        due(6, "turn(0, 0, 2)", x.turn(0, 0, 2), 0);
        due(6, "turn(2, 2, 2)", x.turn(2, 2, 2), 0);
        due(6, "turn(5, 0, 1)", x.turn(5, 0, 1), APART + 1);
        due(6, "turn(0, -1, 1)", x.turn(0, -1, 1), APART + 1);
        due(6, "turn(0, 1, HIGH)", x.turn(0, 1, HIGH), APART + 1);
        x.drop(4);
        due(6, "turn(0, 1, 4), gone", x.turn(0, 1, 4), APART + 1);
    }

    private static void round() {
        SignBench x = of(0, 0, 4, 0, 4, 4, 0, 4, 2, 2, 5, 5, 8, 0);
        due(7, "round(0, 1, 2, 3)", x.round(0, 1, 2, 3), 0);
        due(7, "round(0, 1, 2, 4)", x.round(0, 1, 2, 4), 1);
        due(7, "round(2, 1, 0, 4)", x.round(2, 1, 0, 4), 1);
        due(7, "round(0, 1, 2, 5)", x.round(0, 1, 2, 5), -1);
        due(7, "round(2, 1, 0, 5)", x.round(2, 1, 0, 5), -1);
        due(7, "round(0, 1, 2, 1)", x.round(0, 1, 2, 1), 0);
        due(7, "round(0, 1, 6, 2)", x.round(0, 1, 6, 2), APART + 3);
        due(7, "round(0, 0, 1, 2)", x.round(0, 0, 1, 2), APART + 3);
        due(7, "round(0, 1, 6, 9)", x.round(0, 1, 6, 9), APART + 1);
        due(7, "round(-1, 1, 6, 2)", x.round(-1, 1, 6, 2), APART + 1);
        due(7, "count(11)", x.count(11), 2);
        due(7, "count(13)", x.count(13), 2);
    }

    /** Where doubles would fail: the greatest sums, a single unit off the circle. */
    private static void roundAtTheBounds() {
        int[] p = {-10000, -10000, 10000, -9999, 9999, 10000, -9999, 9998, -10000, 9999, 9998, 9999,
            -9998, -10000, 10000, 10000, 1, 0, 0, 1, -9999, -9999, 10000, -10000};
        SignBench x = of(p);
        int n = p.length / 2;
        for (int i = 0; i < n * n * n * n; i++) {
            if (i % 240 == 0) x = of(p); // what an object answers after 512 calls is free
            int a = i % n, b = i / n % n, c = i / n / n % n, d = i / n / n / n;
            int turn = bigTurn(p, a, b, c).signum();
            due(6, "turn(" + a + ", " + b + ", " + c + ")", x.turn(a, b, c), turn);
            int want = turn == 0 ? APART + 3 : bigRound(p, a, b, c, d) * turn;
            due(7, "round(" + a + ", " + b + ", " + c + ", " + d + ")", x.round(a, b, c, d), want);
        }
    }

    private static BigInteger bigTurn(int[] p, int a, int b, int c) {
        return big(p[2 * b] - p[2 * a]).multiply(big(p[2 * c + 1] - p[2 * a + 1]))
                .subtract(big(p[2 * b + 1] - p[2 * a + 1]).multiply(big(p[2 * c] - p[2 * a])));
    }

    /** The raised places' determinant of four rows, opened along the squares. */
    private static int bigRound(int[] p, int a, int b, int c, int d) {
        return square(p, a).multiply(bigTurn(p, b, c, d)).subtract(square(p, b).multiply(bigTurn(p, a, c, d)))
                .add(square(p, c).multiply(bigTurn(p, a, b, d))).subtract(square(p, d).multiply(bigTurn(p, a, b, c))).signum();
    }

    private static BigInteger square(int[] p, int a) {
        return big(p[2 * a]).pow(2).add(big(p[2 * a + 1]).pow(2));
    }

    private static BigInteger big(long value) {
        return BigInteger.valueOf(value);
    }

    private static void hullCornerArea() {
        SignBench x = of(4, 0, 0, 4, 2, 2, 0, 0, 4, 4, 2, 0, 0, 2, 3, 1);
        int[] want = {3, 0, 4, 1};
        due(8, "hull()", x.hull(), 4);
        for (int i = 0; i < 4; i++) {
            due(9, "corner(" + i + ")", x.corner(i), want[i]);
        }
        due(9, "corner(4)", x.corner(4), -9);
        due(9, "corner(-1)", x.corner(-1), -9);
        due(9, "corner(HIGH)", x.corner(HIGH), -9);
        due(9, "corner(LOW)", x.corner(LOW), -9);
        due(10, "area()", x.area(), 32);
        x.point(-3, 2);
        due(8, "hull()", x.hull(), 5);
        due(9, "corner(0)", x.corner(0), 8);
        due(9, "corner(1)", x.corner(1), 3);
        due(10, "area()", x.area(), 44);
        SignBench wide = of(10000, 10000, -10000, 10000, -10000, -10000, 10000, -10000);
        due(9, "corner(0), the first call", wide.corner(0), 2);
        due(10, "area()", wide.area(), 800000000L);
    }

    private static void hullOfFlatOnes() {
        SignBench none = new SignBench();
        due(8, "hull()", none.hull(), 0);
        due(9, "corner(0)", none.corner(0), -9);
        due(10, "area()", none.area(), 0);
        SignBench one = of(3, 3);
        due(8, "hull()", one.hull(), 1);
        due(9, "corner(0)", one.corner(0), 0);
        due(9, "corner(1)", one.corner(1), -9);
        due(10, "area()", one.area(), 0);
        SignBench upright = of(2, 5, 2, 9, 2, -4, 2, 0);
        due(8, "hull()", upright.hull(), 2);
        due(9, "corner(0)", upright.corner(0), 2);
        due(9, "corner(1)", upright.corner(1), 1);
        due(9, "corner(2)", upright.corner(2), -9);
        SignBench falling = of(0, 0, 3, -3, -3, 3);
        due(8, "hull()", falling.hull(), 2);
        due(9, "corner(0)", falling.corner(0), 2);
        due(9, "corner(1)", falling.corner(1), 1);
        due(10, "area()", falling.area(), 0);
    }

    private static void triangles() {
        SignBench x = of(0, 0, 4, 0, 4, 4, 0, 4, 8, 2);
        due(11, "triangles()", x.triangles(), 3);
        dueTriangle(x, 0, 0, 1, 2, 2, 1, -9);
        dueTriangle(x, 1, 0, 2, 3, -9, -9, 0);
        dueTriangle(x, 2, 1, 4, 2, -9, 0, -9);
        due(12, "triangle(3, 0)", x.triangle(3, 0), APART + 1);
        due(12, "triangle(-1, 9)", x.triangle(-1, 9), APART + 1);
        due(12, "triangle(LOW, 0)", x.triangle(LOW, 0), APART + 1);
        due(12, "triangle(0, 6)", x.triangle(0, 6), APART + 2);
        due(12, "triangle(0, -1)", x.triangle(0, -1), APART + 2);
        due(13, "ring(0)", x.ring(0), 4);
        due(13, "ring(1)", x.ring(1), 4);
        due(13, "ring(2)", x.ring(2), 3);
        due(13, "ring(3)", x.ring(3), -1);
        due(13, "ring(-1)", x.ring(-1), -1);
        x.drop(4);
        due(11, "triangles()", x.triangles(), 2);
        x.drop(0);
        due(11, "triangles()", x.triangles(), 1);
        dueTriangle(x, 0, 1, 2, 3, -9, -9, -9);
        x.drop(2);
        due(11, "triangles() of two", x.triangles(), 0);
        due(12, "triangle(0, 0)", x.triangle(0, 0), APART + 1);
        due(13, "ring(0)", x.ring(0), -1);
    }

    /** Twelve points on one circle, told out of order: all triangles go out from number 0. */
    private static void ringOfTwelve() {
        SignBench x = of(0, 5, 5, 0, -5, 0, 0, -5, 4, 3, -4, 3, 4, -3, -4, -3, 3, 4, -3, 4, 3, -4, -3, -4);
        int[] next = {9, 5, 2, 7, 11, 3, 10, 6, 1, 4, 8};
        due(11, "triangles()", x.triangles(), 10);
        for (int t = 0; t < 10; t++) {
            due(12, "triangle(t, 0)", x.triangle(t, 0), 0);
            due(13, "ring(t)", x.ring(t), 12);
        }
        for (int i = 0; i + 1 < next.length; i++) {
            due(14, "edge(0, next)", x.edge(0, next[i]), 1);
            due(14, "edge(next, next)", x.edge(next[i + 1], next[i]), 1);
        }
        due(14, "edge(1, 2)", x.edge(1, 2), 0);
        due(12, "triangle(0, 1)", x.triangle(0, 1), 1);
        due(12, "triangle(0, 2)", x.triangle(0, 2), 4);
        due(12, "triangle(9, 1)", x.triangle(9, 1), 11);
        due(12, "triangle(9, 2)", x.triangle(9, 2), 3);
        due(19, "begin()", x.begin(), 10);
        x.settle(10000);
        due(24, "alike()", x.alike(), 10);
        x.point(0, 0);
        due(11, "triangles() with the middle", x.triangles(), 12);
        due(13, "ring(0)", x.ring(0), 3);
        due(5, "pointOf(12, 2)", x.pointOf(12, 2), 12);
    }

    private static void edge() {
        SignBench x = of(0, 0, 4, 0, 4, 4, 0, 4);
        due(14, "edge(0, 2)", x.edge(0, 2), 1);
        due(14, "edge(2, 0)", x.edge(2, 0), 1);
        due(14, "edge(1, 3)", x.edge(1, 3), 0);
        due(14, "edge(1, 2)", x.edge(1, 2), 1);
        due(14, "edge(1, 1)", x.edge(1, 1), -1);
        due(14, "edge(1, 4)", x.edge(1, 4), -1);
        due(14, "edge(-1, 1)", x.edge(-1, 1), -1);
        due(14, "edge(HIGH, LOW)", x.edge(HIGH, LOW), -1);
        x.drop(0);
        due(14, "edge(1, 3)", x.edge(1, 3), 1);
        due(14, "edge(0, 1), gone", x.edge(0, 1), -1);
        x.drop(2);
        due(14, "edge(1, 3) of flat ones", x.edge(1, 3), 0);
    }

    private static void where() {
        SignBench x = of(0, 0, 4, 0, 4, 4, 0, 4);
        due(15, "where(3, 1)", x.where(3, 1), 0);
        due(15, "where(1, 3)", x.where(1, 3), 1);
        due(15, "where(2, 2), on both", x.where(2, 2), 0);
        due(15, "where(0, 0)", x.where(0, 0), 0);
        due(15, "where(0, 4)", x.where(0, 4), 1);
        due(15, "where(0, 2), on a side", x.where(0, 2), 1);
        due(15, "where(5, 0), on a side's line", x.where(5, 0), -9);
        due(15, "where(-1, 2)", x.where(-1, 2), -9);
        due(15, "where(10000, -10000)", x.where(10000, -10000), -9);
        due(15, "where(10001, -10001)", x.where(10001, -10001), APART + 4);
        due(15, "where(0, -10001)", x.where(0, -10001), APART + 4);
        due(15, "where(0, 10001)", x.where(0, 10001), APART + 6);
        SignBench flat = of(0, 0, 4, 0);
        due(15, "where(2, 0) of flat ones", flat.where(2, 0), -9);
        due(15, "where(HIGH, 0) of flat ones", flat.where(HIGH, 0), APART + 6);
        due(15, "where(LOW, 0) of none", new SignBench().where(LOW, 0), APART + 4);
    }

    private static void nearest() {
        SignBench x = of(4, 0, 0, 0, 10000, 10000, -10000, -10000);
        due(16, "nearest(1, 0)", x.nearest(1, 0), 1);
        due(16, "nearest(2, 7), two alike", x.nearest(2, 7), 0);
        due(16, "nearest(10000, 9999)", x.nearest(10000, 9999), 2);
        due(16, "nearest(-10001, 10001)", x.nearest(-10001, 10001), APART + 4);
        due(16, "nearest(0, -10001)", x.nearest(0, -10001), APART + 4);
        due(16, "nearest(10001, 0)", x.nearest(10001, 0), APART + 6);
        due(16, "nearest(0, HIGH)", x.nearest(0, HIGH), APART + 6);
        x.drop(0);
        due(16, "nearest(2, 7)", x.nearest(2, 7), 1);
        due(16, "nearest(0, 0) of none", new SignBench().nearest(0, 0), -9);
        SignBench far = of(10000, 10000);
        due(16, "nearest(-10000, -10000)", far.nearest(-10000, -10000), 0);
    }

    private static void cross() {
        SignBench x = of(0, 0, 4, 4, 0, 4, 4, 0, 2, 2, 6, 6, 1, 1, 9, 9, 1, 0);
        due(17, "cross(0, 1, 2, 3)", x.cross(0, 1, 2, 3), 2);
        due(17, "cross(1, 0, 3, 2)", x.cross(1, 0, 3, 2), 2);
        due(17, "cross(0, 1, 2, 4), an end on the way", x.cross(0, 1, 2, 4), 1);
        due(17, "cross(2, 4, 0, 1)", x.cross(2, 4, 0, 1), 1);
        due(17, "cross(0, 1, 4, 3)", x.cross(0, 1, 4, 3), 1);
        due(17, "cross(0, 1, 3, 4)", x.cross(0, 1, 3, 4), 1);
        due(17, "cross(0, 1, 1, 3), one end", x.cross(0, 1, 1, 3), 1);
        due(17, "cross(0, 1, 1, 0), the same way", x.cross(0, 1, 1, 0), 1);
        due(17, "cross(0, 1, 4, 5), over one another", x.cross(0, 1, 4, 5), 1);
        due(17, "cross(0, 5, 6, 4), one in the other", x.cross(0, 5, 6, 4), 1);
        due(17, "cross(6, 4, 0, 5)", x.cross(6, 4, 0, 5), 1);
        due(17, "cross(0, 4, 4, 5), end to end", x.cross(0, 4, 4, 5), 1);
        due(17, "cross(0, 6, 4, 5), one line apart", x.cross(0, 6, 4, 5), 0);
        due(17, "cross(5, 7, 2, 3), the line alone", x.cross(5, 7, 2, 3), 0);
        due(17, "cross(0, 2, 1, 3), side by side", x.cross(0, 2, 1, 3), 0);
        due(17, "cross(0, 0, 1, 2)", x.cross(0, 0, 1, 2), -1);
        due(17, "cross(1, 2, 0, 0)", x.cross(1, 2, 0, 0), -1);
        due(17, "cross(0, 1, 2, 9)", x.cross(0, 1, 2, 9), -1);
        due(17, "cross(-1, 1, 2, 3)", x.cross(-1, 1, 2, 3), -1);
        SignBench straight = of(0, 0, 0, 4, 0, 2, -3, 2, 3, 2, -1, 2, -1, 5);
        due(17, "cross(0, 1, 2, 3), an end on an upright way", straight.cross(0, 1, 2, 3), 1);
        due(17, "cross(3, 4, 5, 6), an end on a level way", straight.cross(3, 4, 5, 6), 1);
        due(17, "cross(0, 1, 3, 5), beside an upright way", straight.cross(0, 1, 3, 5), 0);
        SignBench wide = of(-10000, -10000, 10000, 10000, -10000, 9999, 10000, -9998);
        due(17, "cross(0, 1, 2, 3), between the grid's places", wide.cross(0, 1, 2, 3), 2);
    }

    private static void around() {
        SignBench x = of(0, 0, -2, 0, 0, -3, 5, 0, 2, 2, 1, 0, 0, 4, 1, 1, -1, -1, 3, -1, -4, 0, 0, 1);
        int[] want = {5, 3, 7, 4, 11, 6, 1, 10, 8, 2, 9};
        for (int i = 0; i < want.length; i++) {
            due(18, "around(0, " + i + ")", x.around(0, i), want[i]);
        }
        due(18, "around(0, 11)", x.around(0, 11), -9);
        due(18, "around(0, -1)", x.around(0, -1), -9);
        due(18, "around(0, HIGH)", x.around(0, HIGH), -9);
        due(18, "around(0, LOW)", x.around(0, LOW), -9);
        due(18, "around(12, 0)", x.around(12, 0), -1);
        due(18, "around(-1, -1)", x.around(-1, -1), -1);
        x.drop(5);
        due(18, "around(0, 0)", x.around(0, 0), 3);
        due(18, "around(5, 0), gone", x.around(5, 0), -1);
        due(18, "around(0, 0) of one", of(7, 7).around(0, 0), -9);
        due(18, "around(4, 0)", x.around(4, 0), 6);
    }

    private static void begin() {
        SignBench x = new SignBench();
        due(19, "begin()", x.begin(), -3);
        x.point(0, 0);
        x.point(4, 0);
        due(19, "begin() of two", x.begin(), -3);
        x.point(0, 4);
        due(19, "begin()", x.begin(), 1);
        dueHeld(20, x, 0, 1, 2);
        due(19, "count(3)", x.count(3), 1);
        x.move(2, 8, 0);
        due(19, "begin() of flat ones", x.begin(), -3);
        due(19, "count(3), the old one stays", x.count(3), 1);
        due(19, "count(4)", x.count(4), 1);
        due(19, "count(5)", x.count(5), 1);
        x.point(5, 5);
        due(19, "begin()", x.begin(), 2);
        due(19, "count(4)", x.count(4), 0);
        x.flip(1, 3);
        due(19, "begin() again", x.begin(), 2);
        dueHeld(19, x, 0, 1, 3, 1, 2, 3);
    }

    /** The first four on one line upright, the rest to both its ends. */
    private static void beginOnALine() {
        SignBench x = of(0, 6, 0, 0, 0, 4, 0, 2, 3, 3, 5, 6, 5, -1);
        due(19, "begin()", x.begin(), 6);
        dueHeld(19, x, 0, 2, 4, 0, 4, 5, 1, 4, 3, 1, 6, 4, 2, 3, 4, 4, 6, 5);
        SignBench right = of(0, 0, 1, 1, 2, 2, 3, 0);
        due(19, "begin()", right.begin(), 2);
        dueHeld(19, right, 0, 3, 1, 1, 3, 2);
        SignBench below = of(3, 1, 4, -5, 0, 0, 1, 0, 2, 0);
        due(19, "begin()", below.begin(), 5);
        dueHeld(19, below, 0, 2, 3, 0, 3, 4, 0, 4, 1, 1, 3, 2, 1, 4, 3);
    }

    /** One that lies on the line of a side is not outside of it; sides along one line stay sides. */
    private static void beginBesideALine() {
        SignBench x = of(0, 0, 1, 2, 2, 0, 4, 0, 6, 1);
        due(19, "begin()", x.begin(), 3);
        dueHeld(19, x, 0, 2, 1, 1, 2, 3, 1, 3, 4);
        x.move(4, 6, -1);
        due(19, "begin()", x.begin(), 5);
        dueHeld(19, x, 0, 2, 1, 0, 4, 2, 1, 2, 3, 1, 3, 4, 2, 4, 3);
    }

    private static void held() {
        SignBench x = of(0, 0, 4, 0, 4, 4, 0, 4);
        due(20, "held(9, 9) without a hand", x.held(9, 9), -3);
        x.begin();
        dueHeld(20, x, 0, 1, 3, 1, 2, 3);
        due(20, "held(2, 9)", x.held(2, 9), -1);
        due(20, "held(-1, 0)", x.held(-1, 0), -1);
        due(20, "held(HIGH, 0)", x.held(HIGH, 0), -1);
        due(20, "held(0, 3)", x.held(0, 3), -2);
        due(20, "held(0, -1)", x.held(0, -1), -2);
        x.flip(1, 3);
        dueHeld(20, x, 0, 1, 2, 0, 2, 3);
        x.point(9, 9);
        due(20, "held(0, 0), stale", x.held(0, 0), -3);
    }

    private static void bad() {
        SignBench x = of(0, 0, 4, 0, 4, 4, 0, 4);
        due(21, "bad(7, 7) without a hand", x.bad(7, 7), -3);
        x.begin();
        due(21, "bad(1, 3), a circle's", x.bad(1, 3), 2);
        due(21, "bad(3, 1)", x.bad(3, 1), 2);
        due(21, "bad(0, 1), one side alone", x.bad(0, 1), 0);
        due(21, "bad(0, 2), none", x.bad(0, 2), -1);
        due(21, "bad(1, 1)", x.bad(1, 1), -1);
        due(21, "bad(-1, 4)", x.bad(-1, 4), -1);
        due(21, "bad(HIGH, 0)", x.bad(HIGH, 0), -1);
        x.flip(1, 3);
        due(21, "bad(0, 2)", x.bad(0, 2), 1);
        x.drop(3);
        due(21, "bad(0, 2), stale", x.bad(0, 2), -3);
        SignBench dent = of(0, 0, 8, 0, 4, 1, 4, 8);
        dent.begin();
        due(21, "bad(0, 2), may not be", dent.bad(0, 2), 0);
        SignBench thin = of(0, 0, 10, 2, 10, -2, 20, 0);
        thin.begin();
        due(21, "bad(1, 2), well", thin.bad(1, 2), 1);
        thin.flip(1, 2);
        due(21, "bad(0, 3), within", thin.bad(0, 3), 2);
        SignBench straight = of(0, 0, 4, 0, 8, 0, 4, 4, 4, -4);
        straight.begin();
        due(21, "bad(1, 3), an end on the line", straight.bad(1, 3), 0);
    }

    private static void flip() {
        SignBench x = of(0, 0, 4, 0, 4, 4, 0, 4);
        due(22, "flip(1, 3) without a hand", x.flip(1, 3), -3);
        x.begin();
        due(22, "flip(0, 1), one side alone", x.flip(0, 1), -3);
        due(22, "flip(0, 2), none", x.flip(0, 2), -1);
        due(22, "flip(0, 0)", x.flip(0, 0), -1);
        due(22, "flip(4, -1)", x.flip(4, -1), -1);
        due(22, "flip(1, 3)", x.flip(1, 3), 1);
        due(22, "flip(1, 3) again", x.flip(1, 3), -1);
        dueHeld(22, x, 0, 1, 2, 0, 2, 3);
        due(22, "flip(2, 0), not bad", x.flip(2, 0), 1);
        dueHeld(22, x, 0, 1, 3, 1, 2, 3);
        due(22, "count(6)", x.count(6), 2);
        due(22, "count(11)", x.count(11), 4);
        due(22, "count(13)", x.count(13), 2);
        x.move(0, 0, 0);
        due(22, "flip(1, 3), stale", x.flip(1, 3), -3);
        SignBench straight = of(0, 0, 4, 0, 8, 0, 4, 4, 4, -4);
        straight.begin();
        due(22, "flip(1, 3), an end on the line", straight.flip(1, 3), -3);
        SignBench dent = of(0, 0, 8, 0, 4, 1, 4, 8);
        dent.begin();
        due(22, "flip(0, 2), may not be", dent.flip(0, 2), -3);
    }

    private static void settle() {
        SignBench x = of(-5, 0, 5, 1, 0, 10, 0, -7, 1, 2, 2, 5);
        due(23, "settle(-1) without a hand", x.settle(-1), -3);
        x.begin();
        due(23, "settle(-1)", x.settle(-1), -4);
        due(23, "settle(LOW)", x.settle(LOW), -4);
        due(23, "settle(10001)", x.settle(10001), -6);
        due(23, "settle(0)", x.settle(0), 0);
        due(23, "bads()", x.bads(), 2);
        due(23, "bad(2, 3)", x.bad(2, 3), 2);
        due(23, "settle(2)", x.settle(2), 2);
        due(23, "settle(10000)", x.settle(10000), 1);
        due(23, "settle(10000) again", x.settle(10000), 0);
        due(23, "count(6)", x.count(6), 3);
        due(23, "alike()", x.alike(), 6);
        x.drop(0);
        due(23, "settle(1), stale", x.settle(1), -3);
        settleFirstOfTwo();
    }

    /** Two squares apart, each with a bad side: the one of the lesser end goes first. */
    private static void settleFirstOfTwo() {
        SignBench x = of(10, 0, 0, 0, 2, 0, 0, 2, 2, 2, 12, 0, 10, 2, 12, 2);
        x.begin();
        due(21, "bad(5, 6)", x.bad(5, 6), 2);
        due(21, "bad(2, 3)", x.bad(2, 3), 2);
        int least = 0;
        for (int n = 0; n < 20 && x.bads() > 0; n++) {
            int[] first = firstBad(x, 8);
            due(23, "settle(1)", x.settle(1), 1);
            due(23, "the first bad one is flipped", x.bad(first[0], first[1]), -1);
            least++;
        }
        due(23, "count(6)", x.count(6), least);
        due(24, "alike()", x.alike(), x.triangles());
    }

    private static int[] firstBad(SignBench x, int points) {
        for (int a = 0; a < points; a++) {
            for (int b = a + 1; b < points; b++) {
                if (x.bad(a, b) == 2) return new int[] {a, b};
            }
        }
        return new int[] {-1, -1};
    }

    private static void alike() {
        SignBench x = of(0, 0, 4, 0, 4, 4, 0, 4, 8, 2);
        due(24, "alike() without a hand", x.alike(), -3);
        x.begin();
        due(24, "alike()", x.alike(), 1);
        x.flip(1, 3);
        due(24, "alike()", x.alike(), 3);
        x.flip(1, 2);
        due(24, "alike()", x.alike(), 1);
        x.point(20, 20);
        due(24, "alike(), stale", x.alike(), -3);
    }

    private static void bads() {
        SignBench x = of(0, 0, 4, 0, 4, 4, 0, 4, 8, 2);
        due(25, "bads() without a hand", x.bads(), -3);
        x.begin();
        due(25, "bads()", x.bads(), 1);
        x.flip(1, 3);
        due(25, "bads()", x.bads(), 0);
        x.flip(1, 2);
        due(25, "bads()", x.bads(), 1);
        x.drop(4);
        due(25, "bads(), stale", x.bads(), -3);
        due(25, "count(13)", x.count(13), 2);
    }

    private static void count() {
        SignBench x = of(0, 0, 4, 0, 8, 0);
        due(26, "count(2) of flat ones", x.count(2), 1);
        x.point(4, 4);
        due(26, "count(2)", x.count(2), 0);
        due(26, "count(4) without a hand", x.count(4), 0);
        x.begin();
        due(26, "count(3)", x.count(3), 1);
        due(26, "count(4)", x.count(4), 0);
        due(26, "count(5)", x.count(5), 2);
        x.point(4, -4);
        due(26, "count(4)", x.count(4), 1);
        due(26, "count(3), stale", x.count(3), 1);
        due(26, "count(5), stale", x.count(5), 2);
        x.drop(0);
        due(26, "count(0)", x.count(0), 5);
        due(26, "count(1)", x.count(1), 4);
        x.drop(0);
        x.pointOf(1, 9);
        x.bads();
        x.where(-10001, 0);
        x.point(4, 4);
        x.nearest(0, 10001);
        for (int what = 11; what <= 16; what++) {
            due(26, "count(" + what + ")", x.count(what), 1);
        }
        int[] others = {-1, 7, 10, 17, HIGH, LOW};
        for (int what : others) {
            due(26, "count(" + what + ")", x.count(what), -9);
        }
        due(26, "count(12), no refusal came of it", x.count(12), 1);
    }

    private static void refusalsChangeNothing() {
        SignBench x = of(0, 0, 4, 0, 4, 4, 0, 4);
        x.begin();
        x.point(4, 4);
        x.point(10001, 0);
        x.drop(7);
        x.move(0, 4, 4);
        x.settle(-1);
        x.flip(0, 1);
        x.held(0, 5);
        due(26, "count(0)", x.count(0), 4);
        due(26, "count(1)", x.count(1), 4);
        due(26, "count(4)", x.count(4), 0);
        due(26, "count(6)", x.count(6), 0);
        dueHeld(20, x, 0, 1, 3, 1, 2, 3);
        due(10, "area()", x.area(), 32);
    }
}
