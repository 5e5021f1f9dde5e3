/** Promises 23 to 26: the hand settled and held against the drawing, the counts, and the terms that they lean on. */
final class SettlingBoundaries {
    private static final int LOW = Ledger.LOW;
    private static final int HIGH = Ledger.HIGH;

    private final Ledger ledger;

    SettlingBoundaries(Ledger ledger) {
        this.ledger = ledger;
    }

    void run() {
        settleUpTo();
        settleFirstByTheOtherEnd();
        settleFirstByTheLesserEnd();
        settleEachMayBe();
        settleTillNone();
        settleNoHand();
        settleBelow();
        settleAbove();
        alikeSome();
        alikeNoHand();
        badsSome();
        badsNoHand();
        countTold();
        countThere();
        countFlat();
        flatFewer();
        flatOnOneLine();
        countHand();
        countStale();
        staleSince();
        countHandTriangles();
        countFlips();
        countRefusals();
        countOther();
        fiveHundredAndTwelve();
    }

    private void due(String call, long got, long want) {
        ledger.due(call, got, want);
    }

    /** Three flips settle it. */
    private static SignBench three() {
        return Benches.begun(-5, 0, 5, 1, 0, 10, 0, -7, 1, 2, 2, 5);
    }

    private void settleUpTo() {
        ledger.clause(23, "SETTLING, up to n flips: how many");
        due("settle(3), just enough", three().settle(3), 3);
        due("settle(4), one more", three().settle(4), 3);
        due("settle(10000)", three().settle(10000), 3);
        ledger.term(23, "or so many times");
        SignBench x = three();
        due("settle(0)", x.settle(0), 0);
        due("bads()", x.bads(), 2);
        due("settle(2), one less", x.settle(2), 2);
        due("bads()", x.bads(), 1);
        due("settle(1)", x.settle(1), 1);
        due("bads()", x.bads(), 0);
        due("settle(1), none left", x.settle(1), 0);
        due("count(6)", x.count(6), 3);
        due("settle(1) of one triangle", Benches.begun(0, 0, 1, 0, 0, 1).settle(1), 0);
    }

    private void settleFirstByTheOtherEnd() {
        ledger.term(23, "the first BAD EDGE (by its lesser end, then the other)");
        SignBench x = Benches.begun(5, 0, 0, 5, 6, 6, 7, 4, 6, 8, 2, 2);
        due("bads()", x.bads(), 2);
        due("bad(0, 1)", x.bad(0, 1), 2);
        due("bad(0, 2)", x.bad(0, 2), 2);
        due("settle(1)", x.settle(1), 1);
        due("bad(0, 1), flipped", x.bad(0, 1), -1);
        due("bad(0, 2), not yet", x.bad(0, 2), 2);
        due("settle(1)", x.settle(1), 1);
        due("bad(0, 2), flipped", x.bad(0, 2), -1);
        due("settle(1)", x.settle(1), 0);
    }

    /** Two squares; one's bad edge has the least end, the other's the least other end. */
    private void settleFirstByTheLesserEnd() {
        ledger.term(23, "(by its lesser end, then the other)");
        SignBench x = Benches.of(0, 0, 100, 0, 102, 0, 2, 0, 100, 2, 102, 2, 0, 2, 2, 2);
        x.begin();
        due("bad(3, 6), of one square", x.bad(3, 6), 2);
        due("bad(2, 4), of the other", x.bad(2, 4), 2);
        int least = leastBad(x, 8);
        due("settle(1)", x.settle(1), 1);
        due("the first one is flipped", x.bad(least / 8, least % 8), -1);
        due("settle(10000), one after the other", x.settle(10000), dueFlipsOneByOne());
        due("alike()", x.alike(), x.triangles());
    }

    /** The same two squares again, each flip asked for by itself, after the first. */
    private int dueFlipsOneByOne() {
        SignBench x = Benches.of(0, 0, 100, 0, 102, 0, 2, 0, 100, 2, 102, 2, 0, 2, 2, 2);
        x.begin();
        int flips = 0;
        for (int least = leastBad(x, 8); least >= 0 && flips < 12; least = leastBad(x, 8)) {
            due("flip of the first bad one", x.flip(least / 8, least % 8), 1);
            flips++;
        }
        return flips - 1;
    }

    private static int leastBad(SignBench x, int points) {
        for (int side = 0; side < points * points; side++) {
            if (side / points < side % points && x.bad(side / points, side % points) == 2) return side;
        }
        return -1;
    }

    private void settleEachMayBe() {
        ledger.term(23, "is flipped (each may be)");
        for (int k = 0; k < 64; k++) {
            int a = k / 8, b = k % 8;
            SignBench x = eight();
            if (a != b && x.bad(a, b) == 2) due("flip(" + a + ", " + b + ")", x.flip(a, b), 1);
        }
        due("bads()", eight().bads() > 0 ? 1 : 0, 1);
    }

    private static SignBench eight() {
        return Benches.begun(9, 0, 0, 9, 18, 9, 9, 18, 3, 3, 15, 15, 4, 14, 12, 5);
    }

    private void settleTillNone() {
        ledger.term(23, "till there is none");
        SignBench most = Benches.fullest();
        most.begin();
        due("settle(10000) stops by itself", most.settle(10000) < 10000 ? 1 : 0, 1);
        due("bads()", most.bads(), 0);
        due("alike()", most.alike(), 75);
        due("settle(10000) again", most.settle(10000), 0);
        SignBench ring = Benches.onCircle(40);
        ring.begin();
        ring.settle(10000);
        due("bads() of a ring of 40", ring.bads(), 0);
        due("alike() of a ring of 40", ring.alike(), 38);
        SignBench grid = Benches.of(2, 2, 0, 0, 1, 0, 2, 0, 0, 1, 1, 1, 2, 1, 0, 2, 1, 2);
        grid.begin();
        grid.settle(10000);
        due("bads() of a grid", grid.bads(), 0);
        due("alike() of a grid", grid.alike(), 8);
    }

    private void settleNoHand() {
        ledger.clause(23, "-3");
        SignBench x = Benches.square();
        due("no hand", x.settle(0), -3);
        due("no hand, below too", x.settle(-1), -3);
        due("no hand, above too", x.settle(10001), -3);
        due("count(13)", x.count(13), 3);
        due("count(14)", x.count(14), 0);
        due("count(16)", x.count(16), 0);
        due("stale", Benches.stale().settle(1), -3);
        due("stale, below too", Benches.stale().settle(LOW), -3);
    }

    private void settleBelow() {
        ledger.clause(23, "-4");
        SignBench x = Benches.begunSquare();
        due("settle(-1)", x.settle(-1), -4);
        due("settle(LOW)", x.settle(LOW), -4);
        due("count(14)", x.count(14), 2);
        due("bads(), nothing flipped", x.bads(), 1);
        due("settle(0), the least", x.settle(0), 0);
        due("count(6)", x.count(6), 0);
    }

    private void settleAbove() {
        ledger.clause(23, "-6 n above 10000");
        SignBench x = Benches.begunSquare();
        due("settle(10001)", x.settle(10001), -6);
        due("settle(HIGH)", x.settle(HIGH), -6);
        due("count(16)", x.count(16), 2);
        due("bads(), nothing flipped", x.bads(), 1);
        due("settle(10000), the greatest", x.settle(10000), 1);
    }

    private void alikeSome() {
        ledger.clause(24, "How many TRIANGLES THE HAND has that THE DRAWING has, too");
        due("the only one", Benches.begun(0, 0, 1, 0, 0, 1).alike(), 1);
        SignBench x = Benches.begunSquare();
        due("none", x.alike(), 0);
        x.flip(1, 3);
        due("all", x.alike(), 2);
        SignBench some = Benches.begun(0, 0, 4, 0, 4, 4, 0, 4, 8, 2);
        due("some", some.alike(), 1);
        some.settle(10000);
        due("all", some.alike(), 3);
    }

    private void alikeNoHand() {
        ledger.clause(24, "-3");
        SignBench x = Benches.square();
        due("no hand", x.alike(), -3);
        due("no points", new SignBench().alike(), -3);
        due("stale", Benches.stale().alike(), -3);
        due("count(13)", x.count(13), 1);
    }

    private void badsSome() {
        ledger.clause(25, "How many EDGES of THE HAND are BAD");
        due("one triangle", Benches.begun(0, 0, 1, 0, 0, 1).bads(), 0);
        SignBench x = Benches.begunSquare();
        due("a square", x.bads(), 1);
        x.flip(1, 3);
        due("a square, flipped", x.bads(), 0);
        x.flip(0, 2);
        due("a square, flipped back", x.bads(), 1);
        due("two that share an end", Benches.begun(5, 0, 0, 5, 6, 6, 7, 4, 6, 8, 2, 2).bads(), 2);
        due("the least square", Benches.begun(0, 0, 1, 1, 0, 1, 1, 0).bads(), 1);
        due("the least square, the least an end", Benches.begun(0, 1, 0, 0, 1, 0, 1, 1).bads(), 0);
    }

    private void badsNoHand() {
        ledger.clause(25, "-3");
        SignBench x = Benches.square();
        due("no hand", x.bads(), -3);
        due("no points", new SignBench().bads(), -3);
        due("stale", Benches.stale().bads(), -3);
        due("count(13)", x.count(13), 1);
    }

    private void countTold() {
        ledger.clause(26, "0 POINTS ever told,");
        SignBench x = new SignBench();
        due("none", x.count(0), 0);
        x.point(0, 0);
        x.point(0, 0);
        due("one, and one refused", x.count(0), 1);
        x.move(0, 1, 1);
        due("one that moved", x.count(0), 1);
        x.drop(0);
        due("one that is gone", x.count(0), 1);
        due("forty", Benches.onCurve(40).count(0), 40);
    }

    private void countThere() {
        ledger.clause(26, "1 that are there,");
        SignBench x = new SignBench();
        due("none", x.count(1), 0);
        x.point(0, 0);
        x.point(1, 1);
        due("two", x.count(1), 2);
        x.move(0, 5, 5);
        due("two, one moved", x.count(1), 2);
        x.drop(0);
        x.drop(0);
        due("one gone, once", x.count(1), 1);
        due("forty", Benches.onCurve(40).count(1), 40);
    }

    private void countFlat() {
        ledger.clause(26, "2 1 if they are FLAT,");
        SignBench x = Benches.of(0, 0, 4, 0, 0, 4);
        due("not flat", x.count(2), 0);
        x.move(2, 8, 0);
        due("flat", x.count(2), 1);
        x.move(2, 8, 1);
        due("one unit off", x.count(2), 0);
    }

    private void flatFewer() {
        ledger.term(26, "if there are fewer than three");
        SignBench x = new SignBench();
        due("none", x.count(2), 1);
        x.point(0, 0);
        due("one", x.count(2), 1);
        x.point(4, 7);
        due("two", x.count(2), 1);
        x.point(9, 0);
        due("three", x.count(2), 0);
        x.drop(0);
        due("two of three", x.count(2), 1);
    }

    private void flatOnOneLine() {
        ledger.term(26, "or all lie on one line");
        due("forty", Benches.onLine(40).count(2), 1);
        due("an upright line", Benches.of(5, 9, 5, -9, 5, 0).count(2), 1);
        due("a level line", Benches.of(9, 5, -9, 5, 0, 5).count(2), 1);
        due("off it by the least", Benches.of(-10000, -10000, 10000, 9999, -9999, -9999).count(2), 0);
        SignBench last = Benches.onLine(39);
        last.point(1, 0);
        due("39 on a line, the last off it", last.count(2), 0);
        SignBench first = Benches.of(0, 1, 0, 0, 1, 0, 2, 0);
        due("the first off it", first.count(2), 0);
        first.drop(0);
        due("the first gone", first.count(2), 1);
    }

    private void countHand() {
        ledger.clause(26, "3 1 if there is a HAND,");
        SignBench x = Benches.square();
        due("none", x.count(3), 0);
        x.begin();
        due("begun", x.count(3), 1);
        x.drop(0);
        due("stale", x.count(3), 1);
        SignBench flat = Benches.onLine(3);
        flat.begin();
        due("a begin refused", flat.count(3), 0);
    }

    private void countStale() {
        ledger.clause(26, "4 1 if it is STALE,");
        SignBench x = Benches.square();
        due("no hand", x.count(4), 0);
        x.begin();
        due("begun", x.count(4), 0);
        x.flip(1, 3);
        x.settle(1);
        due("flipped and settled", x.count(4), 0);
        x.drop(0);
        due("stale", x.count(4), 1);
        x.begin();
        due("begun again", x.count(4), 0);
    }

    private void staleSince() {
        ledger.term(26, "It is STALE if a POINT came or is GONE since");
        SignBench x = Benches.begunSquare();
        x.point(0, 0);
        x.point(0, 10001);
        x.drop(4);
        x.move(0, 4, 4);
        x.move(4, 9, 9);
        due("only refusals since", x.count(4), 0);
        x.point(9, 9);
        due("one came", x.count(4), 1);
        x.drop(4);
        due("one came and is gone again", x.count(4), 1);
        x.begin();
        due("begun", x.count(4), 0);
        x.drop(3);
        due("one is gone", x.count(4), 1);
        x.point(0, 4);
        due("another came in its place", x.count(4), 1);
    }

    private void countHandTriangles() {
        ledger.clause(26, "5 TRIANGLES of THE HAND (0),");
        SignBench x = Benches.square();
        due("no hand", x.count(5), 0);
        x.begin();
        due("begun", x.count(5), 2);
        x.flip(1, 3);
        due("flipped", x.count(5), 2);
        x.point(9, 9);
        due("stale", x.count(5), 2);
        x.begin();
        due("begun again", x.count(5), 4);
        SignBench most = Benches.fullest();
        most.begin();
        due("the most", most.count(5), 75);
    }

    private void countFlips() {
        ledger.clause(26, "6 flips done in all");
        SignBench x = Benches.begunSquare();
        due("none", x.count(6), 0);
        x.flip(0, 1);
        x.flip(0, 2);
        x.settle(0);
        x.settle(-1);
        due("refused ones", x.count(6), 0);
        x.flip(1, 3);
        due("one", x.count(6), 1);
        x.flip(0, 2);
        x.settle(10000);
        due("one back and one by settling", x.count(6), 3);
        x.begin();
        due("begun again", x.count(6), 3);
        x.settle(5);
        due("one more", x.count(6), 4);
        x.triangles();
        due("the drawing's own making counts none", x.count(6), 4);
    }

    private void countRefusals() {
        ledger.clause(26, "11 .. 16 REFUSALS -1 .. -6");
        SignBench x = Benches.square();
        x.drop(7);
        for (int i = 0; i < 2; i++) x.pointOf(0, 9);
        for (int i = 0; i < 3; i++) x.bads();
        for (int i = 0; i < 4; i++) x.where(-10001, 0);
        for (int i = 0; i < 5; i++) x.point(4, 4);
        for (int i = 0; i < 6; i++) x.nearest(0, 10001);
        for (int what = 11; what <= 16; what++) due("count(" + what + ")", x.count(what), what - 10);
    }

    private void countOther() {
        ledger.clause(26, "-9 for another what");
        SignBench x = Benches.begunSquare();
        int[] others = {-1, -9, 7, 8, 9, 10, 17, 18, HIGH, LOW};
        for (int what : others) due("count(" + what + ")", x.count(what), -9);
        for (int what = 11; what <= 16; what++) due("count(" + what + "), no refusal", x.count(what), 0);
    }

    private void fiveHundredAndTwelve() {
        ledger.term(26, "An object is used for at most 512 calls after it has been made");
        SignBench x = new SignBench();
        for (int i = 0; i < 511; i++) due("drop(0), call " + i, x.drop(0), -1);
        due("count(11), the 512th call", x.count(11), 511);
        SignBench most = Benches.fullest();
        for (int i = 0; i < 117; i++) {
            due("move, round " + i, most.move(39, i - 60, 500 + i % 7), 1);
            due("begin, round " + i, most.begin(), 75);
            most.settle(10000);
            due("alike, round " + i, most.alike(), 75);
        }
        due("bads()", most.bads(), 0);
        due("triangles()", most.triangles(), 75);
        due("hull()", most.hull(), 3);
        due("count(3), the 512th call", most.count(3), 1);
    }
}
