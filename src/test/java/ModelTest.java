import java.util.Random;

/**
 * Long runs of calls by chance (always the same ones), each answer held against the Model's. With
 * its looks at everything a run goes past the 512 calls that are promised: the class counts none,
 * and a fault in what it keeps shows the better.
 */
public final class ModelTest {
    private static final int RUNS = 144;
    private static final int CALLS = 512;
    private static final int[][] ROUND_65 = {{65, 0}, {63, 16}, {60, 25}, {56, 33}, {52, 39}, {39, 52}, {33, 56}, {25, 60}, {16, 63}, {0, 65}};
    private static int wrong = 0;

    private final int seed;
    private final Random chance;
    private final SignBench bench = new SignBench();
    private final Model model = new Model();
    private final int kind;
    private final int mostTold;

    private ModelTest(int seed) {
        this.seed = seed;
        chance = new Random(seed);
        kind = seed % 6;
        mostTold = seed % 4 == 0 ? 41 : 4 + chance.nextInt(20);
    }

    public static void main(String[] args) {
        for (int seed = 0; seed < RUNS && wrong < 20; seed++) {
            new ModelTest(seed).run();
        }
        System.out.println(wrong == 0 ? "all answers are the model's" : wrong + " answers are not the model's");
        if (wrong != 0) System.exit(1);
    }

    private void run() {
        int before = wrong;
        for (int call = 0; call < CALLS && wrong == before; call++) {
            if (call > 100 && call % 60 == 0) lookAtAll();
            else if (chance.nextInt(5) == 0) change();
            else ask();
        }
    }

    private void same(String call, long got, long want) {
        if (got != want) {
            wrong++;
            System.out.println("seed " + seed + ": " + call + " answered " + got + ", the model says " + want);
        }
    }

    private int place() {
        if (chance.nextInt(60) == 0) return chance.nextBoolean() ? -10001 - chance.nextInt(3) : 10001 + chance.nextInt(3);
        switch (kind) {
            case 0: return chance.nextInt(4);
            case 1: return chance.nextInt(13) - 6;
            case 2: return chance.nextInt(20001) - 10000;
            case 3: return chance.nextInt(3) * 10000 - 10000 + (chance.nextInt(4) == 0 ? 1 - chance.nextInt(3) : 0);
            default: return chance.nextInt(131) - 65;
        }
    }

    private int[] spot() {
        if (kind == 4 && chance.nextInt(4) != 0) {
            int[] on = ROUND_65[chance.nextInt(ROUND_65.length)];
            return new int[] {on[0] * (chance.nextBoolean() ? 1 : -1), on[1] * (chance.nextBoolean() ? 1 : -1)};
        }
        if (kind == 5 && chance.nextInt(6) != 0) {
            int along = chance.nextInt(41) - 20;
            return new int[] {3 * along, 2 * along};
        }
        return new int[] {place(), place()};
    }

    private int number() {
        int told = model.count(0);
        return chance.nextInt(15) == 0 || told == 0 ? chance.nextInt(60) - 10 : chance.nextInt(told);
    }

    private void change() {
        int[] s = spot();
        int p = number();
        int what = chance.nextInt(10);
        if (what < 6 && model.count(0) < mostTold) same("point(" + s[0] + ", " + s[1] + ")", bench.point(s[0], s[1]), model.point(s[0], s[1]));
        else if (what < 7) same("drop(" + p + ")", bench.drop(p), model.drop(p));
        else same("move(" + p + ", " + s[0] + ", " + s[1] + ")", bench.move(p, s[0], s[1]), model.move(p, s[0], s[1]));
        if (chance.nextInt(2) == 0) same("begin()", bench.begin(), model.begin());
    }

    private void ask() {
        int a = number(), b = number(), c = number(), d = number();
        int t = chance.nextInt(80) - 1;
        int few = chance.nextInt(8) - 1;
        int[] s = spot();
        String four = "(" + a + ", " + b + ", " + c + ", " + d + ")";
        switch (chance.nextInt(24)) {
            case 0: same("pointOf(" + a + ", " + few + ")", bench.pointOf(a, few), model.pointOf(a, few)); break;
            case 1: same("turn" + four, bench.turn(a, b, c), model.turn(a, b, c)); break;
            case 2: same("round" + four, bench.round(a, b, c, d), model.round(a, b, c, d)); break;
            case 3: same("hull()", bench.hull(), model.hull()); break;
            case 4: same("corner(" + few + ")", bench.corner(few), model.corner(few)); break;
            case 5: same("area()", bench.area(), model.area()); break;
            case 6: same("triangles()", bench.triangles(), model.triangles()); break;
            case 7: same("triangle(" + t + ", " + few + ")", bench.triangle(t, few), model.triangle(t, few)); break;
            case 8: same("ring(" + t + ")", bench.ring(t), model.ring(t)); break;
            case 9: same("edge" + four, bench.edge(a, b), model.edge(a, b)); break;
            case 10: same("where(" + s[0] + ", " + s[1] + ")", bench.where(s[0], s[1]), model.where(s[0], s[1])); break;
            case 11: same("nearest(" + s[0] + ", " + s[1] + ")", bench.nearest(s[0], s[1]), model.nearest(s[0], s[1])); break;
            case 12: same("cross" + four, bench.cross(a, b, c, d), model.cross(a, b, c, d)); break;
            case 13: same("around(" + a + ", " + t + ")", bench.around(a, t), model.around(a, t)); break;
            case 14: same("begin()", bench.begin(), model.begin()); break;
            case 15: same("held(" + t + ", " + few + ")", bench.held(t, few), model.held(t, few)); break;
            case 16: same("bad" + four, bench.bad(a, b), model.bad(a, b)); break;
            case 17:
            case 18: flipSome(); break;
            case 19: settleSome(); break;
            case 20: same("alike()", bench.alike(), model.alike()); break;
            case 21: same("bads()", bench.bads(), model.bads()); break;
            default: int what = chance.nextInt(20) - 1; same("count(" + what + ")", bench.count(what), model.count(what)); break;
        }
    }

    /** Sides by chance are seldom drawn, so most flips take a side of a triangle that is held. */
    private void flipSome() {
        for (int i = 0; i < 6; i++) {
            int a = number(), b = number();
            int size = model.count(5);
            if (size > 0 && model.count(4) == 0 && chance.nextInt(8) != 0) {
                int t = chance.nextInt(size);
                int k = chance.nextInt(3);
                a = model.held(t, k);
                b = model.held(t, (k + 1) % 3);
                bench.held(t, k);
                bench.held(t, (k + 1) % 3);
            }
            same("bad(" + a + ", " + b + ")", bench.bad(a, b), model.bad(a, b));
            same("flip(" + a + ", " + b + ")", bench.flip(a, b), model.flip(a, b));
        }
    }

    private void settleSome() {
        int n = chance.nextInt(8) == 0 ? 9999 + chance.nextInt(3) : chance.nextInt(6) - 1;
        same("settle(" + n + ")", bench.settle(n), model.settle(n));
    }

    private void lookAtAll() {
        same("triangles()", bench.triangles(), model.triangles());
        for (int t = 0; t < model.triangles(); t++) {
            for (int what = 0; what < 6; what++) same("triangle(" + t + ", " + what + ")", bench.triangle(t, what), model.triangle(t, what));
            same("ring(" + t + ")", bench.ring(t), model.ring(t));
        }
        for (int i = 0; i <= model.hull(); i++) same("corner(" + i + ")", bench.corner(i), model.corner(i));
        for (int p = -1; p <= model.count(0); p++) {
            for (int what = 0; what < 5; what++) same("pointOf(" + p + ", " + what + ")", bench.pointOf(p, what), model.pointOf(p, what));
            for (int i = -1; i < 41; i++) same("around(" + p + ", " + i + ")", bench.around(p, i), model.around(p, i));
            for (int q = -1; q <= model.count(0); q++) same("edge(" + p + ", " + q + ")", bench.edge(p, q), model.edge(p, q));
        }
        lookAtHand();
        same("begin()", bench.begin(), model.begin());
        lookAtHand();
        for (int n = 1; n < 5; n++) same("settle(" + n + ")", bench.settle(n), model.settle(n));
        lookAtHand();
        same("settle(10000)", bench.settle(10000), model.settle(10000));
        lookAtHand();
        for (int what = -1; what < 20; what++) same("count(" + what + ")", bench.count(what), model.count(what));
    }

    private void lookAtHand() {
        for (int t = 0; t <= model.count(5); t++) {
            for (int what = 0; what < 3; what++) same("held(" + t + ", " + what + ")", bench.held(t, what), model.held(t, what));
        }
        for (int a = 0; a < model.count(0); a++) {
            for (int b = 0; b < model.count(0); b++) same("bad(" + a + ", " + b + ")", bench.bad(a, b), model.bad(a, b));
        }
        same("bads()", bench.bads(), model.bads());
        same("alike()", bench.alike(), model.alike());
    }
}
