import java.util.ArrayList;
import java.util.List;

/** Benches to begin tests with; each leaves most of its 512 calls to the test. */
final class Benches {
    private static final int RADIUS = 1105;

    private Benches() {
    }

    static SignBench of(int... places) {
        SignBench x = new SignBench();
        for (int i = 0; i + 1 < places.length; i += 2) x.point(places[i], places[i + 1]);
        return x;
    }

    /** (0,0) (4,0) (4,4) (0,4): all on one circle. */
    static SignBench square() {
        return of(0, 0, 4, 0, 4, 4, 0, 4);
    }

    static SignBench begun(int... places) {
        SignBench x = of(places);
        x.begin();
        return x;
    }

    static SignBench begunSquare() {
        SignBench x = square();
        x.begin();
        return x;
    }

    /** A hand that a drop has made stale. */
    static SignBench stale() {
        SignBench x = of(0, 0, 4, 0, 4, 4, 0, 4, 9, 9);
        x.begin();
        x.drop(4);
        return x;
    }

    /** All of them corners. */
    static SignBench onCurve(int n) {
        SignBench x = new SignBench();
        for (int i = 0; i < n; i++) x.point(i, i * i);
        return x;
    }

    /** On one slanted line, told from its middle to both its ends in turn. */
    static SignBench onLine(int n) {
        SignBench x = new SignBench();
        for (int i = 0; i < n; i++) {
            int along = i % 2 == 0 ? i / 2 : -1 - i / 2;
            x.point(3 * along, -2 * along);
        }
        return x;
    }

    /** On one circle around (0,0), out of order. */
    static SignBench onCircle(int n) {
        SignBench x = new SignBench();
        List<int[]> places = circle();
        for (int i = 0; i < n; i++) {
            int[] place = places.get(i * 37 % places.size());
            x.point(place[0], place[1]);
        }
        return x;
    }

    private static List<int[]> circle() {
        List<int[]> found = new ArrayList<>();
        for (int x = -RADIUS; x <= RADIUS; x++) {
            for (int y = -RADIUS; y <= RADIUS; y++) {
                if (x * x + y * y == RADIUS * RADIUS) found.add(new int[] {x, y});
            }
        }
        return found;
    }

    /** Forty, three of them corners: as many triangles as there can be, 75. */
    static SignBench fullest() {
        SignBench x = of(-10000, -10000, 10000, -10000, 0, 10000);
        for (int i = 0; i < 37; i++) x.point(i * 97 - 1800, i * i * 31 % 5003 - 6000);
        return x;
    }
}
