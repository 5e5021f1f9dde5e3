import java.util.ArrayList;
import java.util.Arrays;
import java.util.Comparator;
import java.util.List;
import java.util.TreeSet;

/**
 * The document read word by word, slow and without caring for speed: circles are tried three
 * points at a time, the hull is what no other points enclose, the hand is a plain list.
 */
final class Model {
    private final List<int[]> told = new ArrayList<>();
    private final List<Boolean> there = new ArrayList<>();
    private final int[] refusals = new int[7];
    private List<int[]> drawing;
    private List<int[]> hand;
    private boolean stale;
    private int flips;

    int point(int x, int y) {
        if (x < -10000 || y < -10000) return no(-4);
        if (x > 10000 || y > 10000 || told.size() == 40) return no(-6);
        for (int p : all()) if (x(p) == x && y(p) == y) return no(-5);
        told.add(new int[] {x, y});
        there.add(true);
        changed();
        return told.size() - 1;
    }

    int drop(int p) {
        if (!is(p)) return no(-1);
        there.set(p, false);
        changed();
        return 1;
    }

    int move(int p, int x, int y) {
        if (!is(p)) return no(-1);
        if (x < -10000 || y < -10000) return no(-4);
        if (x > 10000 || y > 10000) return no(-6);
        for (int q : all()) if (q != p && x(q) == x && y(q) == y) return no(-5);
        told.set(p, new int[] {x, y});
        changed();
        return 1;
    }

    int pointOf(int p, int what) {
        if (!is(p)) return 1000000000 - no(-1);
        if (what == 0) return x(p);
        if (what == 1) return y(p);
        if (what == 2) {
            int n = 0;
            for (int[] t : drawing()) if (has(t, p)) n++;
            return n;
        }
        if (what == 3) return corners().contains(p) ? 1 : 0;
        return 1000000000 - no(-2);
    }

    int turn(int a, int b, int c) {
        return is(a) && is(b) && is(c) ? sign(a, b, c) : 1000000000 - no(-1);
    }

    int round(int a, int b, int c, int d) {
        if (!is(a) || !is(b) || !is(c) || !is(d)) return 1000000000 - no(-1);
        if (sign(a, b, c) == 0) return 1000000000 - no(-3);
        return within(a, b, c, d);
    }

    int hull() {
        return corners().size();
    }

    int corner(int i) {
        List<Integer> c = corners();
        return i >= 0 && i < c.size() ? c.get(i) : -9;
    }

    long area() {
        List<Integer> c = corners();
        long sum = 0;
        for (int i = 0; i < c.size(); i++) {
            int a = c.get(i);
            int b = c.get((i + 1) % c.size());
            sum += (long) x(a) * y(b) - (long) x(b) * y(a);
        }
        return sum;
    }

    int triangles() {
        return drawing().size();
    }

    int triangle(int t, int what) {
        if (t < 0 || t >= drawing().size()) return 1000000000 - no(-1);
        if (what < 0 || what > 5) return 1000000000 - no(-2);
        int[] own = drawing().get(t);
        if (what < 3) return own[what];
        for (int o = 0; o < drawing().size(); o++) {
            int shared = 0;
            for (int i = 0; i < 3; i++) if (i != what - 3 && has(drawing().get(o), own[i])) shared++;
            if (o != t && shared == 2) return o;
        }
        return -9;
    }

    int ring(int t) {
        if (t < 0 || t >= drawing().size()) return no(-1);
        int[] own = drawing().get(t);
        int n = 0;
        for (int p : all()) if (within(own[0], own[1], own[2], p) == 0) n++;
        return n;
    }

    int edge(int a, int b) {
        if (!is(a) || !is(b) || a == b) return no(-1);
        return thirds(drawing(), a, b).isEmpty() ? 0 : 1;
    }

    int where(int x, int y) {
        if (x < -10000 || y < -10000) return 1000000000 - no(-4);
        if (x > 10000 || y > 10000) return 1000000000 - no(-6);
        for (int t = 0; t < drawing().size(); t++) {
            int[] own = drawing().get(t);
            long sum = 0;
            for (int i = 0; i < 3; i++) {
                sum += Math.abs(twice(told.get(own[i]), told.get(own[(i + 1) % 3]), new int[] {x, y}));
            }
            if (sum == twice(told.get(own[0]), told.get(own[1]), told.get(own[2]))) return t;
        }
        return -9;
    }

    int nearest(int x, int y) {
        if (x < -10000 || y < -10000) return 1000000000 - no(-4);
        if (x > 10000 || y > 10000) return 1000000000 - no(-6);
        int best = -9;
        for (int p : all()) {
            if (best < 0 || Math.hypot(x(p) - x, y(p) - y) < Math.hypot(x(best) - x, y(best) - y) - 1e-9) best = p;
        }
        return best;
    }

    int cross(int a, int b, int c, int d) {
        if (!is(a) || !is(b) || !is(c) || !is(d) || a == b || c == d) return no(-1);
        long ux = x(b) - x(a), uy = y(b) - y(a), vx = x(d) - x(c), vy = y(d) - y(c);
        long wx = x(c) - x(a), wy = y(c) - y(a);
        long det = ux * vy - uy * vx;
        if (det != 0) {
            long s = (wx * vy - wy * vx) * Long.signum(det);
            long r = (wx * uy - wy * ux) * Long.signum(det);
            long top = Math.abs(det);
            if (s < 0 || s > top || r < 0 || r > top) return 0;
            return s == 0 || s == top || r == 0 || r == top ? 1 : 2;
        }
        if (ux * wy - uy * wx != 0) return 0;
        long from = wx * ux + wy * uy;
        long to = from + vx * ux + vy * uy;
        return Math.max(from, to) >= 0 && Math.min(from, to) <= ux * ux + uy * uy ? 1 : 0;
    }

    int around(int p, int i) {
        if (!is(p)) return no(-1);
        List<Integer> others = all();
        others.remove(Integer.valueOf(p));
        others.sort((q, r) -> {
            double difference = angle(p, q) - angle(p, r);
            if (Math.abs(difference) > 1e-11) return difference < 0 ? -1 : 1;
            return Double.compare(Math.hypot(x(q) - x(p), y(q) - y(p)), Math.hypot(x(r) - x(p), y(r) - y(p)));
        });
        return i >= 0 && i < others.size() ? others.get(i) : -9;
    }

    int begin() {
        if (flat()) return no(-3);
        hand = new ArrayList<>();
        stale = false;
        List<Integer> order = all();
        order.sort(Comparator.<Integer>comparingInt(p -> x(p)).thenComparingInt(p -> y(p)));
        int first = 2;
        while (sign(order.get(0), order.get(1), order.get(first)) == 0) first++;
        for (int i = 0; i + 1 < first; i++) hand.add(told(order.get(i), order.get(i + 1), order.get(first)));
        for (int i = first + 1; i < order.size(); i++) {
            int p = order.get(i);
            List<int[]> fresh = new ArrayList<>();
            for (int[] t : hand) {
                for (int k = 0; k < 3; k++) {
                    int a = t[k], b = t[(k + 1) % 3];
                    if (thirds(hand, a, b).size() == 1 && sign(a, b, p) < 0) fresh.add(told(a, b, p));
                }
            }
            hand.addAll(fresh);
        }
        hand.sort(Arrays::compare);
        return hand.size();
    }

    int held(int t, int what) {
        if (!ready()) return no(-3);
        if (t < 0 || t >= hand.size()) return no(-1);
        return what < 0 || what > 2 ? no(-2) : hand.get(t)[what];
    }

    int bad(int a, int b) {
        if (!ready()) return no(-3);
        if (thirds(hand, a, b).isEmpty()) return no(-1);
        return isBad(a, b) ? 2 : mayBe(a, b) ? 1 : 0;
    }

    int flip(int a, int b) {
        if (!ready()) return no(-3);
        if (thirds(hand, a, b).isEmpty()) return no(-1);
        if (!mayBe(a, b)) return no(-3);
        turnOver(a, b);
        return 1;
    }

    int settle(int n) {
        if (!ready()) return no(-3);
        if (n < 0) return no(-4);
        if (n > 10000) return no(-6);
        int done = 0;
        while (done < n && !badOnes().isEmpty()) {
            int[] first = badOnes().get(0);
            turnOver(first[0], first[1]);
            done++;
        }
        return done;
    }

    int alike() {
        if (!ready()) return no(-3);
        int n = 0;
        for (int[] t : hand) for (int[] o : drawing()) if (Arrays.equals(t, o)) n++;
        return n;
    }

    int bads() {
        return ready() ? badOnes().size() : no(-3);
    }

    int count(int what) {
        if (what >= 11 && what <= 16) return refusals[what - 10];
        switch (what) {
            case 0: return told.size();
            case 1: return all().size();
            case 2: return flat() ? 1 : 0;
            case 3: return hand != null ? 1 : 0;
            case 4: return hand != null && stale ? 1 : 0;
            case 5: return hand == null ? 0 : hand.size();
            case 6: return flips;
            default: return -9;
        }
    }

    private int no(int number) {
        refusals[-number]++;
        return number;
    }

    private void changed() {
        drawing = null;
        stale = true;
    }

    private boolean ready() {
        return hand != null && !stale;
    }

    private boolean is(int p) {
        return p >= 0 && p < told.size() && there.get(p);
    }

    private int x(int p) {
        return told.get(p)[0];
    }

    private int y(int p) {
        return told.get(p)[1];
    }

    private List<Integer> all() {
        List<Integer> found = new ArrayList<>();
        for (int p = 0; p < told.size(); p++) if (there.get(p)) found.add(p);
        return found;
    }

    private static boolean has(int[] t, int p) {
        return t[0] == p || t[1] == p || t[2] == p;
    }

    private static long twice(int[] a, int[] b, int[] c) {
        return (long) (b[0] - a[0]) * (c[1] - a[1]) - (long) (b[1] - a[1]) * (c[0] - a[0]);
    }

    private int sign(int a, int b, int c) {
        return Long.signum(twice(told.get(a), told.get(b), told.get(c)));
    }

    /** By the circle's middle, seen from a: d is as far from it as a if d * d * D = 2 * d * M. */
    private int within(int a, int b, int c, int d) {
        long bx = x(b) - x(a), by = y(b) - y(a), cx = x(c) - x(a), cy = y(c) - y(a);
        long dx = x(d) - x(a), dy = y(d) - y(a);
        long mx = cy * (bx * bx + by * by) - by * (cx * cx + cy * cy);
        long my = bx * (cx * cx + cy * cy) - cx * (bx * bx + by * by);
        long cross = bx * cy - by * cx;
        return Long.signum(dx * mx + dy * my - (dx * dx + dy * dy) * cross) * Long.signum(cross);
    }

    private boolean flat() {
        List<Integer> p = all();
        for (int i = 2; i < p.size(); i++) if (sign(p.get(0), p.get(1), p.get(i)) != 0) return false;
        return true;
    }

    private List<Integer> corners() {
        List<Integer> order = all();
        order.sort(Comparator.<Integer>comparingInt(p -> x(p)).thenComparingInt(p -> y(p)));
        if (order.size() < 3) return order;
        if (flat()) return new ArrayList<>(List.of(order.get(0), order.get(order.size() - 1)));
        List<Integer> found = new ArrayList<>();
        int at = order.get(0);
        do {
            found.add(at);
            at = following(at, order);
        } while (at != found.get(0));
        return found;
    }

    /** The farthest one that has all others to the left of the way to it, or on it. */
    private int following(int at, List<Integer> points) {
        int best = -1;
        for (int p : points) {
            boolean good = p != at;
            for (int q : points) if (good && sign(at, p, q) < 0) good = false;
            if (good && (best < 0 || Math.hypot(x(p) - x(at), y(p) - y(at)) > Math.hypot(x(best) - x(at), y(best) - y(at)))) {
                best = p;
            }
        }
        return best;
    }

    private List<int[]> drawing() {
        if (drawing != null) return drawing;
        TreeSet<int[]> found = new TreeSet<>(Arrays::compare);
        List<Integer> p = all();
        for (int i = 0; i < p.size(); i++) {
            for (int j = i + 1; j < p.size(); j++) {
                for (int k = j + 1; k < p.size(); k++) {
                    if (sign(p.get(i), p.get(j), p.get(k)) != 0) addRing(p.get(i), p.get(j), p.get(k), found);
                }
            }
        }
        drawing = new ArrayList<>(found);
        return drawing;
    }

    private void addRing(int a, int b, int c, TreeSet<int[]> found) {
        List<Integer> ring = new ArrayList<>();
        for (int p : all()) {
            int in = within(a, b, c, p);
            if (in > 0) return;
            if (in == 0) ring.add(p);
        }
        int least = ring.get(0);
        for (int u : ring) {
            for (int v : ring) {
                boolean next = u != v && u != least && v != least;
                for (int w : ring) if (next && w != u && w != v && sign(u, v, w) < 0) next = false;
                if (next) found.add(told(least, u, v));
            }
        }
    }

    private int[] told(int a, int b, int c) {
        int[] t = sign(a, b, c) > 0 ? new int[] {a, b, c} : new int[] {a, c, b};
        while (t[0] > t[1] || t[0] > t[2]) t = new int[] {t[1], t[2], t[0]};
        return t;
    }

    private static List<Integer> thirds(List<int[]> triangles, int a, int b) {
        List<Integer> found = new ArrayList<>();
        if (a == b) return found;
        for (int[] t : triangles) if (has(t, a) && has(t, b)) for (int p : t) if (p != a && p != b) found.add(p);
        return found;
    }

    private boolean mayBe(int a, int b) {
        List<Integer> o = thirds(hand, a, b);
        return o.size() == 2 && sign(a, b, o.get(0)) * sign(a, b, o.get(1)) < 0
                && sign(o.get(0), o.get(1), a) * sign(o.get(0), o.get(1), b) < 0;
    }

    private boolean isBad(int a, int b) {
        List<Integer> o = thirds(hand, a, b);
        if (o.size() != 2) return false;
        int in = within(a, b, o.get(0), o.get(1));
        int least = Math.min(Math.min(a, b), Math.min(o.get(0), o.get(1)));
        return in > 0 || (in == 0 && least != a && least != b);
    }

    private List<int[]> badOnes() {
        TreeSet<int[]> found = new TreeSet<>(Arrays::compare);
        for (int[] t : hand) {
            for (int k = 0; k < 3; k++) {
                int a = Math.min(t[k], t[(k + 1) % 3]);
                int b = Math.max(t[k], t[(k + 1) % 3]);
                if (isBad(a, b)) found.add(new int[] {a, b});
            }
        }
        return new ArrayList<>(found);
    }

    private void turnOver(int a, int b) {
        List<Integer> o = thirds(hand, a, b);
        hand.removeIf(t -> has(t, a) && has(t, b));
        hand.add(told(o.get(0), o.get(1), a));
        hand.add(told(o.get(0), o.get(1), b));
        hand.sort(Arrays::compare);
        flips++;
    }

    private double angle(int p, int q) {
        double angle = Math.atan2(y(q) - y(p), x(q) - x(p));
        return angle < 0 ? angle + 2 * Math.PI : angle;
    }
}
