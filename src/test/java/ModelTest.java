import java.util.ArrayList;
import java.util.Arrays;
import java.util.List;
import java.util.Random;

/**
 * Random runs of calls, always the same ones, whose answers are compared with those of a slow model that is written
 * from the document in another way; the model's ways are themselves compared with those found by trying all.
 */
public final class ModelTest {
    private static final int RUNS = 160;
    private static final int TINY_RUNS = 160;
    private static int wrong = 0;

    /** All ways of a dish for a pass, one by one. */
    private static final class TryAll {
        final Model m;
        final int d;
        final Model.P p;
        final int last;
        final int[] path = new int[160];
        int[] best = null;
        int bestSeen;
        int bestSteps;

        TryAll(Model m, int d, Model.P p) {
            this.m = m;
            this.d = d;
            this.p = p;
            this.last = p.begin + p.points.size() - 1;
            if (m.free[d] <= last) {
                go(m.free[d], m.wind[d], m.height[d], 0, 0);
            }
        }

        void go(int t, int w, int h, int seenBefore, int steps) {
            int k = t - p.begin;
            boolean sees = k >= 0 && k < p.points.size() && p.points.get(k)[0] == Model.side(w)
                && p.points.get(k)[1] == h && h <= m.key && !m.isBurnt(Model.side(w), h, t);
            int seen = seenBefore + (sees ? 1 : 0);
            path[2 * t] = w;
            path[2 * t + 1] = h;
            if (t == last) {
                boolean isFirst = best == null || seen > bestSeen || seen == bestSeen && (steps < bestSteps
                    || steps == bestSteps && Arrays.compare(path, best) < 0);
                if (isFirst) {
                    best = path.clone();
                    bestSeen = seen;
                    bestSteps = steps;
                }
                return;
            }
            for (int dw = -m.speed[d]; dw <= m.speed[d]; dw++) {
                for (int dh = -1; dh <= 1; dh++) {
                    int nw = w + dw;
                    int nh = h + dh;
                    if (Math.abs(nw) <= m.limit[d] && nh >= 0 && nh <= 6 && m.mayBe(nw, nh, t + 1)) {
                        go(t + 1, nw, nh, seen, steps + Math.abs(dw) + Math.abs(dh));
                    }
                }
            }
        }
    }

    /** A run: the class and the model, called alike. */
    private static final class Run {
        final DishRounds x = new DishRounds();
        final Model m = new Model();
        final Random r;
        final int seed;
        final List<String> calls = new ArrayList<>();
        int limitOfCalls = Rows.MOST_CALLS;

        Run(int seed) {
            this.seed = seed;
            r = new Random(seed);
        }

        int call(String name, int... a) {
            if (calls.size() >= limitOfCalls) {
                return 0;
            }
            int want = m.answer(name, a);
            int got = ask(x, name, a);
            calls.add(name + Arrays.toString(a) + " " + got);
            if (got != want) {
                wrong++;
                if (wrong <= 5) {
                    System.out.println("run " + seed + ", call " + calls.size() + ": " + name + Arrays.toString(a)
                        + " answered " + got + ", due is " + want);
                    System.out.println("  after " + calls.subList(Math.max(0, calls.size() - 60), calls.size()));
                }
            }
            return got;
        }

        int in(int lo, int hi) {
            return lo + r.nextInt(hi - lo + 1);
        }

        /** Mostly in its range, now and then beyond it. */
        int near(int lo, int hi) {
            int odd = r.nextInt(60);
            if (odd == 0) {
                return lo - 1;
            }
            if (odd == 1) {
                return hi + 1;
            }
            if (odd == 2) {
                return r.nextBoolean() ? Integer.MIN_VALUE : Integer.MAX_VALUE;
            }
            return in(lo, hi);
        }

        int name() {
            if (m.passes.isEmpty() || r.nextInt(25) == 0) {
                return near(0, 99);
            }
            return m.passes.get(r.nextInt(m.passes.size())).name;
        }

        /** Of the passes a way is asked for, mostly one that has one. */
        int openName() {
            for (int i = 0; i < 6; i++) {
                int n = name();
                Model.P p = m.find(n);
                if (p != null && !m.isShut(p)) {
                    return n;
                }
            }
            return name();
        }

        void newPass() {
            int n = r.nextInt(4) == 0 ? name() : near(0, 99);
            int begin = r.nextInt(3) == 0 ? near(0, 60) : in(0, 14);
            if (call("pass", n, begin) > 0) {
                track(n, in(0, 16));
            }
        }

        /** POINTS that a dish can follow, mostly, with jumps and stops. */
        void track(int n, int size) {
            Model.P p = m.find(n);
            int side = in(0, 23);
            int height = in(0, 6);
            if (p != null && !p.points.isEmpty()) {
                side = p.points.get(p.points.size() - 1)[0];
                height = p.points.get(p.points.size() - 1)[1];
            } else if (r.nextInt(3) > 0) {
                int d = in(0, 3);
                side = Math.floorMod(m.wind[d] + in(-5, 5), 24);
                height = Math.min(5, Math.max(0, m.height[d] + in(-2, 1)));
            }
            int drift = in(-2, 2);
            for (int i = 0; i < size; i++) {
                call("point", n, side, height);
                side = Math.floorMod(side + (r.nextInt(4) == 0 ? in(-3, 3) : drift), 24);
                height = Math.min(6, Math.max(0, height + (r.nextInt(3) == 0 ? in(-1, 1) : 0)));
            }
        }

        void changeSky() {
            switch (r.nextInt(3)) {
                case 0:
                    call("sun", near(0, 23), near(1, 40), near(0, 6), near(-1, 3));
                    break;
                case 1: {
                    int from = near(0, 79);
                    call("storm", r.nextBoolean() ? from : in(0, 20), r.nextBoolean() ? near(0, 79) : in(0, 22));
                    break;
                }
                default:
                    call("key", r.nextInt(3) == 0 ? near(0, 6) : in(4, 6));
            }
        }

        void changeDish() {
            int d = near(0, 3);
            switch (r.nextInt(4)) {
                case 0:
                    call("set", d, 0, r.nextBoolean() ? near(12, 36) : in(12, 16));
                    break;
                case 1:
                    call("set", d, near(0, 1), near(1, 3));
                    break;
                default: {
                    int limit = d >= 0 && d < 4 ? m.limit[d] : 24;
                    int wind = r.nextInt(5) == 0 ? (r.nextBoolean() ? limit : -limit) : near(-limit, limit);
                    call("stand", d, wind, near(0, 6), r.nextInt(8) == 0 ? near(0, 79) : in(0, 12));
                }
            }
        }

        void askWay() {
            int d = near(0, 3);
            int n = openName();
            switch (r.nextInt(5)) {
                case 0:
                case 1:
                    call("way", d, n, near(0, 5));
                    break;
                case 2: {
                    Model.P p = m.find(n);
                    int last = p == null ? 10 : Math.min(79, p.begin + p.points.size());
                    call("where", d, n, r.nextInt(6) == 0 ? near(0, 79) : in(0, Math.max(0, last)), near(0, 2));
                    break;
                }
                case 3:
                    call("offer", n, near(0, 1));
                    break;
                default: {
                    int what = near(0, 1);
                    call("share", n, d, near(0, 3), what);
                }
            }
        }

        void askRest() {
            switch (r.nextInt(6)) {
                case 0:
                    call("told", name(), near(0, 4));
                    break;
                case 1:
                    call("order", near(-1, 8));
                    break;
                case 2:
                    call("dish", near(0, 3), near(0, 5));
                    break;
                case 3:
                    call("burnt", near(0, 23), near(0, 6), near(0, 79));
                    break;
                case 4:
                    call("count", near(0, 11));
                    break;
                default:
                    call("looked", near(0, 23), near(0, 6));
            }
        }

        void someCall() {
            int what = r.nextInt(100);
            if (what < 8) {
                newPass();
            } else if (what < 14) {
                track(name(), in(1, 3));
            } else if (what < 18) {
                call("drop", name());
            } else if (what < 26) {
                changeSky();
            } else if (what < 38) {
                changeDish();
            } else if (what < 68) {
                askWay();
            } else if (what < 86) {
                askRest();
            } else if (what < 91) {
                call("take", near(0, 3), openName());
            } else if (what < 94) {
                call("round");
            } else if (what < 97) {
                call("image", near(0, 1));
            } else {
                call("restore", near(0, 1));
            }
        }

        /** All that can be told without a way, so that no change goes unseen. */
        void tellAll() {
            limitOfCalls = Rows.MOST_CALLS;
            for (int what = 0; what < 12; what++) {
                call("count", what);
            }
            for (int i = -2; i < 9; i++) {
                call("order", i);
            }
            for (int d = 0; d < 4; d++) {
                for (int what = 0; what < 6; what++) {
                    call("dish", d, what);
                }
            }
            for (Model.P p : new ArrayList<>(m.passes)) {
                for (int what = 0; what < 5; what++) {
                    call("told", p.name, what);
                }
            }
            for (int side = 0; side < 24; side++) {
                for (int h = 0; h < 7; h++) {
                    call("looked", side, h);
                }
            }
        }

        /** Every tick of the way of one dish for one pass. */
        void tellWay(int d, int n) {
            for (int what = 0; what < 6; what++) {
                call("way", d, n, what);
            }
            Model.P p = m.find(n);
            if (p == null) {
                return;
            }
            for (int t = 0; t <= Math.min(79, p.begin + p.points.size()); t++) {
                call("where", d, n, t, 0);
                call("where", d, n, t, 1);
                call("where", d, n, t, 2);
            }
        }
    }

    private static int ask(DishRounds x, String call, int[] a) {
        switch (call) {
            case "pass": return x.pass(a[0], a[1]);
            case "point": return x.point(a[0], a[1], a[2]);
            case "drop": return x.drop(a[0]);
            case "stand": return x.stand(a[0], a[1], a[2], a[3]);
            case "set": return x.set(a[0], a[1], a[2]);
            case "sun": return x.sun(a[0], a[1], a[2], a[3]);
            case "storm": return x.storm(a[0], a[1]);
            case "key": return x.key(a[0]);
            case "burnt": return x.burnt(a[0], a[1], a[2]);
            case "told": return x.told(a[0], a[1]);
            case "order": return x.order(a[0]);
            case "dish": return x.dish(a[0], a[1]);
            case "way": return x.way(a[0], a[1], a[2]);
            case "where": return x.where(a[0], a[1], a[2], a[3]);
            case "offer": return x.offer(a[0], a[1]);
            case "share": return x.share(a[0], a[1], a[2], a[3]);
            case "take": return x.take(a[0], a[1]);
            case "round": return x.round();
            case "looked": return x.looked(a[0], a[1]);
            case "count": return x.count(a[0]);
            case "image": return x.image(a[0]);
            case "restore": return x.restore(a[0]);
            default: throw new IllegalStateException(call);
        }
    }

    private static void mixedRun(int seed) {
        Run run = new Run(seed);
        run.limitOfCalls = 256;
        for (int i = 0; i < 400 && run.calls.size() < run.limitOfCalls; i++) {
            run.someCall();
        }
        run.tellAll();
    }

    /** A sky with sun and storm, one pass, and its ways told whole. */
    private static void wayRun(int seed) {
        Run run = new Run(seed);
        run.limitOfCalls = Rows.MOST_CALLS;
        run.call("sun", run.in(0, 23), run.in(1, 12), run.in(1, 6), run.in(-1, 3));
        int stormAt = run.in(0, 20);
        run.call("storm", stormAt, stormAt + run.in(-1, 4));
        run.call("key", run.in(3, 6));
        for (int d = 0; d < 2; d++) {
            run.call("set", d, 0, run.in(12, 36));
            run.call("set", d, 1, run.in(1, 3));
            run.call("stand", d, run.in(-12, 12), run.in(2, 6), run.in(0, 10));
        }
        run.call("pass", 5, run.in(0, 25));
        run.track(5, run.in(1, 16));
        run.tellWay(0, 5);
        run.tellWay(1, 5);
        run.call("share", 5, 0, 1, 0);
        run.call("share", 5, 0, 1, 1);
        run.call("share", 5, 1, 0, 0);
        run.call("share", 5, 1, 0, 1);
    }

    /** A way so short that all can be tried. */
    private static void tinyRun(int seed) {
        Run run = new Run(seed);
        Random r = run.r;
        run.call("sun", run.in(0, 5), run.in(1, 3), run.in(3, 6), run.in(-1, 1));
        int stormAt = run.in(0, 9);
        run.call("storm", stormAt, stormAt + run.in(-1, 1));
        run.call("key", run.in(4, 6));
        run.call("set", 0, 1, r.nextInt(3) == 0 ? 2 : 1);
        run.call("set", 0, 0, 12);
        run.call("stand", 0, r.nextInt(3) == 0 ? 12 : run.in(0, 5), run.in(3, 6), run.in(0, 3));
        run.call("pass", 9, run.in(0, 4));
        int size = run.in(1, 5);
        for (int k = 0; k < size; k++) {
            run.call("point", 9, Math.floorMod(run.m.wind[0] + run.in(-2, 2), 24), Math.min(6, Math.max(0, run.m.height[0] + run.in(-2, 1))));
        }
        Model.P p = run.m.find(9);
        int ticks = p.begin + size - 1 - run.m.free[0];
        if (ticks > (run.m.speed[0] == 1 ? 6 : 4)) {
            return;
        }
        run.tellWay(0, 9);
        TryAll all = new TryAll(run.m, 0, p);
        Model.Node end = run.m.best(0, p);
        if ((end == null) != (all.best == null)) {
            wrong++;
            System.out.println("tiny run " + seed + ": the model is wrong of whether there is a way");
        }
        for (Model.Node n = end; n != null && all.best != null; n = n.prev) {
            if (all.best[2 * n.tick] != n.wind || all.best[2 * n.tick + 1] != n.height) {
                wrong++;
                System.out.println("tiny run " + seed + ": the model is wrong at tick " + n.tick);
            }
        }
        if (end != null && all.best != null && (end.seen != all.bestSeen || end.steps != all.bestSteps)) {
            wrong++;
            System.out.println("tiny run " + seed + ": the model is wrong of seen or steps");
        }
    }

    public static void main(String[] args) {
        int more = args.length > 0 ? Integer.parseInt(args[0]) : 0;
        for (int i = 0; i < RUNS; i++) {
            mixedRun(more + i);
        }
        for (int i = 0; i < RUNS / 4; i++) {
            wayRun(more + 10000 + i);
        }
        for (int i = 0; i < TINY_RUNS; i++) {
            tinyRun(more + 20000 + i);
        }
        System.out.println(wrong == 0 ? "all answers are those of the model" : wrong + " answers are not those of the model");
        if (wrong != 0) {
            System.exit(1);
        }
    }
}
