import java.util.Arrays;

/** Drawings of points, judged by exact signs alone; DOC.md says what each call promises. */
public final class SignBench {
    private static final int MOST_POINTS = 40;
    private static final int FARTHEST = 10000;
    private static final int MOST_FLIPS = 10000;

    private static final int NONE = -9;
    private static final int NOBODY = -1;
    private static final int OTHER = -2;
    private static final int STATE = -3;
    private static final int BELOW = -4;
    private static final int TAKEN = -5;
    private static final int ROOM = -6;
    private static final int NO_FAULT = 0;
    private static final int REFUSAL_KINDS = 6;
    private static final int FIRST_REFUSAL_COUNT = 11;
    private static final int TOLD_APART = 1000000000;

    private final Points points = new Points();
    private final Outline outline = new Outline(points);
    private final Mesh drawing = new Mesh(points);
    private final Mesh hand = new Mesh(points);
    private final int[] refusals = new int[REFUSAL_KINDS];
    private boolean drawingFits;
    private boolean handBegun;
    private boolean handStale;
    private int flipsDone;

    public SignBench() {
    }

    public int point(int x, int y) {
        int fault = faultOfPlace(x, y);
        if (fault == NO_FAULT && points.isFull()) {
            fault = ROOM;
        }
        if (fault == NO_FAULT && points.numberAt(x, y) >= 0) {
            fault = TAKEN;
        }
        if (fault != NO_FAULT) {
            return refuse(fault);
        }
        int p = points.tellNew(x, y);
        pointsChanged();
        return p;
    }

    public int drop(int p) {
        if (!points.isThere(p)) {
            return refuse(NOBODY);
        }
        points.takeAway(p);
        pointsChanged();
        return 1;
    }

    public int move(int p, int x, int y) {
        if (!points.isThere(p)) {
            return refuse(NOBODY);
        }
        int fault = faultOfPlace(x, y);
        if (fault == NO_FAULT) {
            int owner = points.numberAt(x, y);
            if (owner >= 0 && owner != p) {
                fault = TAKEN;
            }
        }
        if (fault != NO_FAULT) {
            return refuse(fault);
        }
        points.takeAway(p);
        points.putDown(p, x, y);
        pointsChanged();
        return 1;
    }

    public int pointOf(int p, int what) {
        if (!points.isThere(p)) {
            return refuseToldApart(NOBODY);
        }
        switch (what) {
            case 0:
                return points.xs[p];
            case 1:
                return points.ys[p];
            case 2:
                return theDrawing().trianglesAt(p);
            case 3:
                outline.trace();
                return outline.hasCorner(p) ? 1 : 0;
            default:
                return refuseToldApart(OTHER);
        }
    }

    public int turn(int a, int b, int c) {
        if (!points.isThere(a) || !points.isThere(b) || !points.isThere(c)) {
            return refuseToldApart(NOBODY);
        }
        return signOf(points.leftness(a, b, c));
    }

    public int round(int a, int b, int c, int d) {
        if (!areAllThere(a, b, c, d)) {
            return refuseToldApart(NOBODY);
        }
        if (points.leftness(a, b, c) == 0) {
            return refuseToldApart(STATE);
        }
        return signOf(points.withinness(a, b, c, d));
    }

    public int hull() {
        outline.trace();
        return outline.size;
    }

    public int corner(int i) {
        outline.trace();
        return i >= 0 && i < outline.size ? outline.corners[i] : NONE;
    }

    public long area() {
        outline.trace();
        return outline.twiceArea();
    }

    public int triangles() {
        return theDrawing().size;
    }

    public int triangle(int t, int what) {
        Mesh mesh = theDrawing();
        if (!mesh.hasTriangle(t)) {
            return refuseToldApart(NOBODY);
        }
        if (what < 0 || what > 5) {
            return refuseToldApart(OTHER);
        }
        if (what < 3) {
            return mesh.pointOfTriangle(t, what);
        }
        int beyond = mesh.triangleBeyond(t, what - 3);
        return beyond < 0 ? NONE : beyond;
    }

    public int ring(int t) {
        Mesh mesh = theDrawing();
        if (!mesh.hasTriangle(t)) {
            return refuse(NOBODY);
        }
        int a = mesh.pointOfTriangle(t, 0);
        int b = mesh.pointOfTriangle(t, 1);
        int c = mesh.pointOfTriangle(t, 2);
        int onCircle = 0;
        for (int i = 0; i < points.present; i++) {
            if (points.withinness(a, b, c, points.order[i]) == 0) {
                onCircle++;
            }
        }
        return onCircle;
    }

    public int edge(int a, int b) {
        if (!areTwoPoints(a, b)) {
            return refuse(NOBODY);
        }
        return theDrawing().hasSide(a, b) ? 1 : 0;
    }

    public int where(int x, int y) {
        int fault = faultOfPlace(x, y);
        if (fault != NO_FAULT) {
            return refuseToldApart(fault);
        }
        Mesh mesh = theDrawing();
        for (int t = 0; t < mesh.size; t++) {
            if (mesh.covers(t, x, y)) {
                return t;
            }
        }
        return NONE;
    }

    public int nearest(int x, int y) {
        int fault = faultOfPlace(x, y);
        if (fault != NO_FAULT) {
            return refuseToldApart(fault);
        }
        int best = NONE;
        long least = 0;
        for (int p = 0; p < points.told; p++) {
            if (points.isThere(p) && (best == NONE || points.squareTo(p, x, y) < least)) {
                least = points.squareTo(p, x, y);
                best = p;
            }
        }
        return best;
    }

    public int cross(int a, int b, int c, int d) {
        if (!areTwoPoints(a, b) || !areTwoPoints(c, d)) {
            return refuse(NOBODY);
        }
        if (points.isParted(a, b, c, d) && points.isParted(c, d, a, b)) {
            return 2;
        }
        boolean touching = points.isOnWay(a, b, c) || points.isOnWay(a, b, d)
                || points.isOnWay(c, d, a) || points.isOnWay(c, d, b);
        return touching ? 1 : 0;
    }

    public int around(int p, int i) {
        if (!points.isThere(p)) {
            return refuse(NOBODY);
        }
        for (int q = 0; q < points.told; q++) {
            if (q != p && points.isThere(q) && points.rankAround(p, q) == i) {
                return q;
            }
        }
        return NONE;
    }

    public int begin() {
        if (points.areFlat()) {
            return refuse(STATE);
        }
        hand.layOut();
        handBegun = true;
        handStale = false;
        return hand.size;
    }

    public int held(int t, int what) {
        if (!isHandReady()) {
            return refuse(STATE);
        }
        if (!hand.hasTriangle(t)) {
            return refuse(NOBODY);
        }
        if (what < 0 || what > 2) {
            return refuse(OTHER);
        }
        return hand.pointOfTriangle(t, what);
    }

    public int bad(int a, int b) {
        int fault = faultOfHandEdge(a, b);
        if (fault != NO_FAULT) {
            return refuse(fault);
        }
        if (hand.isBadSide(a, b)) {
            return 2;
        }
        return hand.mayFlipSide(a, b) ? 1 : 0;
    }

    public int flip(int a, int b) {
        int fault = faultOfHandEdge(a, b);
        if (fault == NO_FAULT && !hand.mayFlipSide(a, b)) {
            fault = STATE;
        }
        if (fault != NO_FAULT) {
            return refuse(fault);
        }
        hand.flipSide(a, b);
        flipsDone++;
        return 1;
    }

    public int settle(int n) {
        if (!isHandReady()) {
            return refuse(STATE);
        }
        if (n < 0) {
            return refuse(BELOW);
        }
        if (n > MOST_FLIPS) {
            return refuse(ROOM);
        }
        int flips = hand.settleUpTo(n);
        flipsDone += flips;
        return flips;
    }

    public int alike() {
        if (!isHandReady()) {
            return refuse(STATE);
        }
        Mesh mesh = theDrawing();
        int shared = 0;
        for (int t = 0; t < hand.size; t++) {
            if (mesh.indexOfCode(hand.codes[t]) >= 0) {
                shared++;
            }
        }
        return shared;
    }

    public int bads() {
        return isHandReady() ? hand.countBadSides() : refuse(STATE);
    }

    public int count(int what) {
        if (what >= FIRST_REFUSAL_COUNT && what < FIRST_REFUSAL_COUNT + REFUSAL_KINDS) {
            return refusals[what - FIRST_REFUSAL_COUNT];
        }
        switch (what) {
            case 0:
                return points.told;
            case 1:
                return points.present;
            case 2:
                return points.areFlat() ? 1 : 0;
            case 3:
                return handBegun ? 1 : 0;
            case 4:
                return handStale ? 1 : 0;
            case 5:
                return hand.size;
            case 6:
                return flipsDone;
            default:
                return NONE;
        }
    }

    private void pointsChanged() {
        drawingFits = false;
        handStale = handBegun;
    }

    /**
     * Every drawing that is settled is THE DRAWING: the rule for four points on one circle is
     * that of lowering points, least number first, by ever smaller amounts on the raised bowl,
     * so a drawing without a bad side is the one lower skin of that bowl.
     */
    private Mesh theDrawing() {
        if (!drawingFits) {
            drawing.layOut();
            drawing.settleUpTo(MOST_FLIPS);
            drawingFits = true;
        }
        return drawing;
    }

    private boolean isHandReady() {
        return handBegun && !handStale;
    }

    private int faultOfHandEdge(int a, int b) {
        if (!isHandReady()) {
            return STATE;
        }
        return areTwoPoints(a, b) && hand.hasSide(a, b) ? NO_FAULT : NOBODY;
    }

    private static int faultOfPlace(int x, int y) {
        if (x < -FARTHEST || y < -FARTHEST) {
            return BELOW;
        }
        return x > FARTHEST || y > FARTHEST ? ROOM : NO_FAULT;
    }

    private boolean areTwoPoints(int a, int b) {
        return a != b && points.isThere(a) && points.isThere(b);
    }

    private boolean areAllThere(int a, int b, int c, int d) {
        return points.isThere(a) && points.isThere(b) && points.isThere(c) && points.isThere(d);
    }

    private int refuse(int number) {
        int kind = -1 - number;
        if (kind >= 0 && kind < REFUSAL_KINDS) {
            refusals[kind]++;
        }
        return number;
    }

    private int refuseToldApart(int number) {
        return TOLD_APART - refuse(number);
    }

    private static int signOf(long value) {
        if (value == 0) {
            return 0;
        }
        return value > 0 ? 1 : -1;
    }

    /** The points told, and the exact judgements over those that are there. */
    private static final class Points {
        final int[] xs = new int[MOST_POINTS];
        final int[] ys = new int[MOST_POINTS];
        final boolean[] there = new boolean[MOST_POINTS];
        /** Those that are there, by x, of one x by y. */
        final int[] order = new int[MOST_POINTS];
        int told;
        int present;

        boolean isFull() {
            return told >= MOST_POINTS;
        }

        boolean isThere(int p) {
            return p >= 0 && p < told && there[p];
        }

        int numberAt(int x, int y) {
            for (int p = 0; p < told; p++) {
                if (there[p] && xs[p] == x && ys[p] == y) {
                    return p;
                }
            }
            return -1;
        }

        int tellNew(int x, int y) {
            int p = told;
            told++;
            putDown(p, x, y);
            return p;
        }

        void putDown(int p, int x, int y) {
            xs[p] = x;
            ys[p] = y;
            there[p] = true;
            int i = present;
            while (i > 0 && comesEarlier(p, order[i - 1])) {
                order[i] = order[i - 1];
                i--;
            }
            order[i] = p;
            present++;
        }

        void takeAway(int p) {
            there[p] = false;
            int kept = 0;
            for (int i = 0; i < present; i++) {
                if (order[i] != p) {
                    order[kept] = order[i];
                    kept++;
                }
            }
            present = kept;
        }

        private boolean comesEarlier(int p, int q) {
            return xs[p] < xs[q] || (xs[p] == xs[q] && ys[p] < ys[q]);
        }

        /** Where in the order the first one stands that is off the line of all before; else the order's end. */
        int firstOffLine() {
            for (int i = 2; i < present; i++) {
                if (leftness(order[0], order[1], order[i]) != 0) {
                    return i;
                }
            }
            return present;
        }

        boolean areFlat() {
            return firstOffLine() >= present;
        }

        /** Above 0 if c lies to the left of the way from a to b, below 0 to the right. */
        long leftness(int a, int b, int c) {
            return leftnessOf(a, b, xs[c], ys[c]);
        }

        long leftnessOf(int a, int b, int x, int y) {
            return (long) (xs[b] - xs[a]) * (y - ys[a]) - (long) (ys[b] - ys[a]) * (x - xs[a]);
        }

        /**
         * Above 0 if d lies within the circle through a, b, c, below 0 without. Differences are
         * at most 20000, so the sum stays below 2 * 10^18 and a long holds it exactly.
         */
        long withinness(int a, int b, int c, int d) {
            int x = xs[d];
            int y = ys[d];
            long sum = squareTo(a, x, y) * leftnessOf(b, c, x, y)
                    + squareTo(b, x, y) * leftnessOf(c, a, x, y)
                    + squareTo(c, x, y) * leftnessOf(a, b, x, y);
            return leftnessOf(a, b, xs[c], ys[c]) < 0 ? -sum : sum;
        }

        long squareTo(int p, int x, int y) {
            long dx = xs[p] - x;
            long dy = ys[p] - y;
            return dx * dx + dy * dy;
        }

        /** Whether c and d lie on both sides of the line through a and b, none on it. */
        boolean isParted(int a, int b, int c, int d) {
            long ofC = leftness(a, b, c);
            long ofD = leftness(a, b, d);
            return (ofC > 0 && ofD < 0) || (ofC < 0 && ofD > 0);
        }

        /** Whether c lies on the way from a to b, its ends too. */
        boolean isOnWay(int a, int b, int c) {
            return leftness(a, b, c) == 0
                    && xs[c] >= Math.min(xs[a], xs[b]) && xs[c] <= Math.max(xs[a], xs[b])
                    && ys[c] >= Math.min(ys[a], ys[b]) && ys[c] <= Math.max(ys[a], ys[b]);
        }

        /** How many others come before q around p. */
        int rankAround(int p, int q) {
            int rank = 0;
            for (int i = 0; i < present; i++) {
                int r = order[i];
                if (r != p && r != q && comesEarlierAround(p, r, q)) {
                    rank++;
                }
            }
            return rank;
        }

        private boolean comesEarlierAround(int p, int q, int r) {
            boolean lateQ = isInLaterHalf(p, q);
            if (lateQ != isInLaterHalf(p, r)) {
                return !lateQ;
            }
            long left = leftness(p, q, r);
            if (left != 0) {
                return left > 0;
            }
            return squareTo(q, xs[p], ys[p]) < squareTo(r, xs[p], ys[p]);
        }

        private boolean isInLaterHalf(int p, int q) {
            return ys[q] < ys[p] || (ys[q] == ys[p] && xs[q] < xs[p]);
        }
    }

    /** THE HULL of the points, in a row that is used again for each tracing. */
    private static final class Outline {
        private final Points points;
        /** Twice as long as the points: the way back may stand on the whole way there for a while. */
        final int[] corners = new int[2 * MOST_POINTS];
        int size;

        Outline(Points points) {
            this.points = points;
        }

        void trace() {
            size = 0;
            for (int i = 0; i < points.present; i++) {
                addCorner(points.order[i], 1);
            }
            int wayThere = size;
            for (int i = points.present - 2; i >= 0; i--) {
                addCorner(points.order[i], wayThere);
            }
            if (size > 1) {
                size--; // the way back ends on the first corner again
            }
        }

        private void addCorner(int p, int kept) {
            while (size > kept && size >= 2 && points.leftness(corners[size - 2], corners[size - 1], p) <= 0) {
                size--;
            }
            if (size < corners.length) {
                corners[size] = p;
                size++;
            }
        }

        boolean hasCorner(int p) {
            for (int i = 0; i < size; i++) {
                if (corners[i] == p) {
                    return true;
                }
            }
            return false;
        }

        long twiceArea() {
            long sum = 0;
            for (int i = 2; i < size; i++) {
                sum += points.leftness(corners[0], corners[i - 1], corners[i]);
            }
            return sum;
        }
    }

    /** A drawing of triangles of all points that were there as it was laid out. */
    private static final class Mesh {
        private static final int SIDES = MOST_POINTS * MOST_POINTS;

        private final Points points;
        /** The triangles, one number each that sorts as they are to be numbered. */
        final int[] codes = new int[2 * MOST_POINTS];
        int size;
        /** For the side from a to b, at a * MOST_POINTS + b: the third point of the triangle to its left, or -1. */
        private final int[] thirds = new int[SIDES];
        /** The border against the clock and with it, used while laying out. */
        private final int[] after = new int[MOST_POINTS];
        private final int[] before = new int[MOST_POINTS];

        Mesh(Points points) {
            this.points = points;
            Arrays.fill(thirds, -1);
        }

        boolean hasTriangle(int t) {
            return t >= 0 && t < size;
        }

        int pointOfTriangle(int t, int what) {
            if (what == 0) {
                return codes[t] / SIDES;
            }
            return what == 1 ? codes[t] / MOST_POINTS % MOST_POINTS : codes[t] % MOST_POINTS;
        }

        /** The triangle beyond the side across from a point of one; -1 if there is none. */
        int triangleBeyond(int t, int what) {
            int a = pointOfTriangle(t, (what + 1) % 3);
            int b = pointOfTriangle(t, (what + 2) % 3);
            int c = thirdOf(b, a);
            return c < 0 ? -1 : indexOfCode(codeOf(b, a, c));
        }

        int trianglesAt(int p) {
            int found = 0;
            for (int q = 0; q < MOST_POINTS; q++) {
                if (thirdOf(p, q) >= 0) {
                    found++;
                }
            }
            return found;
        }

        boolean hasSide(int a, int b) {
            return thirdOf(a, b) >= 0 || thirdOf(b, a) >= 0;
        }

        boolean covers(int t, int x, int y) {
            int a = pointOfTriangle(t, 0);
            int b = pointOfTriangle(t, 1);
            int c = pointOfTriangle(t, 2);
            return points.leftnessOf(a, b, x, y) >= 0
                    && points.leftnessOf(b, c, x, y) >= 0
                    && points.leftnessOf(c, a, x, y) >= 0;
        }

        int indexOfCode(int code) {
            for (int t = 0; t < size; t++) {
                if (codes[t] == code) {
                    return t;
                }
            }
            return -1;
        }

        /** Lays the triangles out as BEGIN does; none if the points are flat. */
        void layOut() {
            size = 0;
            Arrays.fill(thirds, -1);
            int apex = points.firstOffLine();
            if (apex >= points.present) {
                return;
            }
            layFirst(apex);
            for (int i = apex + 1; i < points.present; i++) {
                layNext(points.order[i - 1], points.order[i]);
            }
        }

        private void layFirst(int apex) {
            int[] order = points.order;
            int top = order[apex];
            int first = order[0];
            int last = order[apex - 1];
            boolean left = points.leftness(first, last, top) > 0;
            for (int i = 1; i < apex; i++) {
                int a = left ? order[i - 1] : order[i];
                int b = left ? order[i] : order[i - 1];
                addTriangle(a, b, top);
                linkBorder(a, b);
            }
            linkBorder(left ? last : first, top);
            linkBorder(top, left ? first : last);
        }

        /** The point laid last is the farthest so far, so the sides that see p lie to both hands of it. */
        private void layNext(int lastLaid, int p) {
            int end = lastLaid;
            for (int i = 0; i < MOST_POINTS && points.leftness(end, after[end], p) < 0; i++) {
                addTriangle(end, p, after[end]);
                end = after[end];
            }
            int start = lastLaid;
            for (int i = 0; i < MOST_POINTS && points.leftness(before[start], start, p) < 0; i++) {
                addTriangle(before[start], p, start);
                start = before[start];
            }
            linkBorder(start, p);
            linkBorder(p, end);
        }

        private void linkBorder(int a, int b) {
            after[a] = b;
            before[b] = a;
        }

        boolean isBadSide(int a, int b) {
            int p = thirdOf(a, b);
            int q = thirdOf(b, a);
            if (p < 0 || q < 0) {
                return false;
            }
            long within = points.withinness(a, b, p, q);
            return within > 0 || (within == 0 && Math.min(p, q) < Math.min(a, b));
        }

        boolean mayFlipSide(int a, int b) {
            int p = thirdOf(a, b);
            int q = thirdOf(b, a);
            return p >= 0 && q >= 0 && points.isParted(a, b, p, q) && points.isParted(p, q, a, b);
        }

        void flipSide(int a, int b) {
            int p = thirdOf(a, b);
            int q = thirdOf(b, a);
            if (p < 0 || q < 0) {
                return;
            }
            removeTriangle(a, b, p);
            removeTriangle(b, a, q);
            addTriangle(a, q, p);
            addTriangle(b, p, q);
        }

        int settleUpTo(int most) {
            int flips = 0;
            int side = firstBadSide(0);
            while (flips < most && side < SIDES) {
                int a = side / MOST_POINTS;
                int b = side % MOST_POINTS;
                // Only sides among these four points may have become bad, and none before this one was.
                int least = Math.min(a, Math.min(thirdOf(a, b), thirdOf(b, a)));
                flipSide(a, b);
                flips++;
                side = firstBadSide(Math.max(least, 0) * MOST_POINTS);
            }
            return flips;
        }

        /** The first bad side from this one on, the lesser end ahead; SIDES if there is none. */
        private int firstBadSide(int from) {
            for (int side = from; side < SIDES; side++) {
                int a = side / MOST_POINTS;
                int b = side % MOST_POINTS;
                if (a < b && isBadSide(a, b)) {
                    return side;
                }
            }
            return SIDES;
        }

        int countBadSides() {
            int found = 0;
            for (int a = 0; a < MOST_POINTS; a++) {
                for (int b = a + 1; b < MOST_POINTS; b++) {
                    if (isBadSide(a, b)) {
                        found++;
                    }
                }
            }
            return found;
        }

        private int thirdOf(int a, int b) {
            return thirds[a * MOST_POINTS + b];
        }

        private void setThirds(int a, int b, int c, boolean drawn) {
            thirds[a * MOST_POINTS + b] = drawn ? c : -1;
            thirds[b * MOST_POINTS + c] = drawn ? a : -1;
            thirds[c * MOST_POINTS + a] = drawn ? b : -1;
        }

        private void addTriangle(int a, int b, int c) {
            if (size >= codes.length) {
                return;
            }
            int code = codeOf(a, b, c);
            int t = size;
            while (t > 0 && codes[t - 1] > code) {
                codes[t] = codes[t - 1];
                t--;
            }
            codes[t] = code;
            size++;
            setThirds(a, b, c, true);
        }

        private void removeTriangle(int a, int b, int c) {
            int t = indexOfCode(codeOf(a, b, c));
            if (t < 0) {
                return;
            }
            size--;
            for (int i = t; i < size; i++) {
                codes[i] = codes[i + 1];
            }
            setThirds(a, b, c, false);
        }

        /** Of points against the clock, turned so that the least number comes ahead. */
        private static int codeOf(int a, int b, int c) {
            if (a < b && a < c) {
                return a * SIDES + b * MOST_POINTS + c;
            }
            return b < c ? b * SIDES + c * MOST_POINTS + a : c * SIDES + a * MOST_POINTS + b;
        }
    }
}
