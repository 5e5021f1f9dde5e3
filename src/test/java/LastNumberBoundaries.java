/** The greatest numbers that POINTS can have, 36 to 39, in every call that takes or tells one. */
final class LastNumberBoundaries {
    private static final String WORDS = "40 at most are ever told";

    private final Ledger ledger;

    LastNumberBoundaries(Ledger ledger) {
        this.ledger = ledger;
    }

    void run() {
        points();
        signs();
        hull();
        drawing();
        places();
        hand();
        settling();
    }

    private void due(String call, long got, long want) {
        ledger.due(call, got, want);
    }

    /** 36 to the left, 37 to the right, 38 far below, 39 far above; all others are gone. */
    private static SignBench lastFour() {
        SignBench x = new SignBench();
        for (int p = 0; p < 36; p++) {
            x.point(0, 0);
            x.drop(p);
        }
        x.point(-1, 0);
        x.point(1, 0);
        x.point(0, -10);
        x.point(0, 10);
        return x;
    }

    private void points() {
        SignBench x = lastFour();
        ledger.term(5, WORDS);
        due("pointOf(39, 1)", x.pointOf(39, 1), 10);
        due("pointOf(39, 2)", x.pointOf(39, 2), 1);
        due("pointOf(37, 2)", x.pointOf(37, 2), 2);
        due("pointOf(39, 3)", x.pointOf(39, 3), 1);
        due("pointOf(40, 0)", x.pointOf(40, 0), Ledger.APART + 1);
        ledger.term(4, WORDS);
        due("move(39, 0, 12)", x.move(39, 0, 12), 1);
        due("pointOf(39, 1)", x.pointOf(39, 1), 12);
        due("move(40, 0, 12)", x.move(40, 0, 12), -1);
        ledger.term(3, WORDS);
        due("drop(39)", x.drop(39), 1);
        due("drop(39), gone", x.drop(39), -1);
        due("drop(40)", x.drop(40), -1);
    }

    private void signs() {
        SignBench x = lastFour();
        ledger.term(6, WORDS);
        due("turn(36, 37, 39)", x.turn(36, 37, 39), 1);
        due("turn(37, 36, 39)", x.turn(37, 36, 39), -1);
        due("turn(36, 37, 40)", x.turn(36, 37, 40), Ledger.APART + 1);
        ledger.term(7, WORDS);
        due("round(36, 38, 37, 39)", x.round(36, 38, 37, 39), -1);
        due("round(36, 38, 39, 37)", x.round(36, 38, 39, 37), 1);
        due("round(36, 38, 39, 40)", x.round(36, 38, 39, 40), Ledger.APART + 1);
        ledger.term(17, WORDS);
        due("cross(36, 37, 38, 39)", x.cross(36, 37, 38, 39), 2);
        due("cross(36, 39, 39, 37)", x.cross(36, 39, 39, 37), 1);
        due("cross(36, 37, 38, 40)", x.cross(36, 37, 38, 40), -1);
        ledger.term(18, WORDS);
        due("around(39, 0)", x.around(39, 0), 36);
        due("around(39, 2)", x.around(39, 2), 37);
        due("around(38, 1)", x.around(38, 1), 39);
        due("around(40, 0)", x.around(40, 0), -1);
    }

    private void hull() {
        SignBench x = lastFour();
        ledger.term(9, WORDS);
        int[] corners = {36, 38, 37, 39, -9};
        for (int i = 0; i < corners.length; i++) due("corner(" + i + ")", x.corner(i), corners[i]);
        ledger.term(10, WORDS);
        due("area()", x.area(), 40);
    }

    private void drawing() {
        SignBench x = lastFour();
        ledger.term(12, WORDS);
        int[][] triangles = {{36, 37, 39, -9, -9, 1}, {36, 38, 37, -9, 0, -9}};
        for (int t = 0; t < 2; t++) {
            for (int what = 0; what < 6; what++) {
                due("triangle(" + t + ", " + what + ")", x.triangle(t, what), triangles[t][what]);
            }
        }
        ledger.term(13, WORDS);
        due("ring(1)", x.ring(1), 3);
        ledger.term(14, WORDS);
        due("edge(37, 36)", x.edge(37, 36), 1);
        due("edge(38, 39)", x.edge(38, 39), 0);
        due("edge(39, 40)", x.edge(39, 40), -1);
    }

    private void places() {
        SignBench x = lastFour();
        ledger.term(15, WORDS);
        due("where(0, 1)", x.where(0, 1), 0);
        due("where(0, 0)", x.where(0, 0), 0);
        due("where(0, -1)", x.where(0, -1), 1);
        ledger.term(16, WORDS);
        due("nearest(0, 9)", x.nearest(0, 9), 39);
        due("nearest(0, 0)", x.nearest(0, 0), 36);
    }

    private void hand() {
        SignBench x = lastFour();
        ledger.term(19, WORDS);
        due("begin()", x.begin(), 2);
        ledger.term(20, WORDS);
        int[][] triangles = {{36, 38, 39}, {37, 39, 38}};
        for (int t = 0; t < 2; t++) {
            for (int what = 0; what < 3; what++) {
                due("held(" + t + ", " + what + ")", x.held(t, what), triangles[t][what]);
            }
        }
        ledger.term(21, WORDS);
        due("bad(39, 38)", x.bad(39, 38), 2);
        due("bad(39, 40)", x.bad(39, 40), -1);
        ledger.term(22, WORDS);
        due("flip(39, 40)", x.flip(39, 40), -1);
        due("flip(39, 38)", x.flip(39, 38), 1);
        due("bad(36, 37)", x.bad(36, 37), 1);
    }

    private void settling() {
        SignBench x = lastFour();
        x.begin();
        ledger.term(25, WORDS);
        due("bads()", x.bads(), 1);
        ledger.term(23, WORDS);
        due("settle(10000)", x.settle(10000), 1);
        due("bads(), settled", x.bads(), 0);
        ledger.term(24, WORDS);
        due("alike()", x.alike(), 2);
        ledger.term(26, WORDS);
        due("count(0)", x.count(0), 40);
        due("count(1)", x.count(1), 4);
    }
}
