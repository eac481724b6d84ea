import java.util.ArrayList;
import java.util.HashMap;
import java.util.List;
import java.util.Map;

/** The document, told slowly, and in another way than the class does. */
final class Model {
    /** A pass of the model. */
    static final class P {
        int name;
        int begin;
        int by = -6;
        int seen = -6;
        List<int[]> points = new ArrayList<>();

        P copy() {
            P p = new P();
            p.name = name;
            p.begin = begin;
            p.by = by;
            p.seen = seen;
            p.points = new ArrayList<>(points);
            return p;
        }
    }

    /** Where a way is at a tick, with the way to there. */
    static final class Node {
        int tick;
        int wind;
        int height;
        int seen;
        int steps;
        int rank;
        boolean sees;
        Node prev;
    }

    List<P> passes = new ArrayList<>();
    int[] wind = new int[4];
    int[] height = {6, 6, 6, 6};
    int[] free = new int[4];
    int[] limit = {24, 24, 24, 24};
    int[] speed = {1, 1, 1, 1};
    int sunFrom = 0;
    int sunEvery = 10;
    int sunHeight = 3;
    int cone = -1;
    int[] storm = null;
    int key = 5;
    Map<List<Integer>, Integer> looked = new HashMap<>();
    Model[] images = new Model[2];

    void become(Model m) {
        passes = new ArrayList<>();
        for (P p : m.passes) {
            passes.add(p.copy());
        }
        wind = m.wind.clone();
        height = m.height.clone();
        free = m.free.clone();
        limit = m.limit.clone();
        speed = m.speed.clone();
        sunFrom = m.sunFrom;
        sunEvery = m.sunEvery;
        sunHeight = m.sunHeight;
        cone = m.cone;
        storm = m.storm;
        key = m.key;
        looked = new HashMap<>(m.looked);
    }

    P find(int name) {
        for (P p : passes) {
            if (p.name == name) {
                return p;
            }
        }
        return null;
    }

    static boolean out(int n, int lo, int hi) {
        return n < lo || n > hi;
    }

    static int side(int wind) {
        return Math.floorMod(wind, 24);
    }

    boolean isBurnt(int side, int h, int tick) {
        int sun = sunFrom + tick / sunEvery;
        for (int d = -cone; d <= cone; d++) {
            if (Math.floorMod(sun + d, 24) == side && h >= sunHeight - cone && h <= sunHeight + cone) {
                return true;
            }
        }
        return false;
    }

    boolean mayBe(int w, int h, int tick) {
        if (storm != null && tick >= storm[0] && tick <= storm[1] && h != 6) {
            return false;
        }
        return !isBurnt(side(w), h, tick);
    }

    boolean sees(P p, int upTo, int from, Node n) {
        int k = n.tick - p.begin;
        if (k < from || k < 0 || k >= upTo) {
            return false;
        }
        int[] q = p.points.get(k);
        return q[0] == side(n.wind) && q[1] == n.height && n.height <= key && !isBurnt(q[0], q[1], n.tick);
    }

    Node node(P p, int upTo, int from, Node prev, int[] at) {
        Node n = new Node();
        n.tick = at[0];
        n.wind = at[1];
        n.height = at[2];
        n.prev = prev;
        n.sees = sees(p, upTo, from, n);
        n.seen = (prev == null ? 0 : prev.seen) + (n.sees ? 1 : 0);
        n.steps = prev == null ? 0 : prev.steps + Math.abs(n.wind - prev.wind) + Math.abs(n.height - prev.height);
        return n;
    }

    /** Ways to one and the same place: which one is first. */
    static boolean isBetter(Node a, Node b) {
        if (a.seen != b.seen) {
            return a.seen > b.seen;
        }
        if (a.steps != b.steps) {
            return a.steps < b.steps;
        }
        return a.prev.rank < b.prev.rank;
    }

    /** The way's end, or null; of the pass with its first upTo points alone, those before from not to be seen. */
    Node best(int d, P p, int upTo, int from) {
        int last = p.begin + upTo - 1;
        if (free[d] > last) {
            return null;
        }
        List<Node> row = new ArrayList<>();
        row.add(node(p, upTo, from, null, new int[] {free[d], wind[d], height[d]}));
        for (int t = free[d] + 1; t <= last; t++) {
            row = nextRow(d, p, upTo, from, row, t);
        }
        Node best = null;
        for (Node n : row) {
            if (best == null || n.seen > best.seen || n.seen == best.seen && (n.steps < best.steps
                    || n.steps == best.steps && n.rank < best.rank)) {
                best = n;
            }
        }
        return best;
    }

    List<Node> nextRow(int d, P p, int upTo, int from, List<Node> row, int t) {
        Node[][] at = new Node[73][7];
        for (Node n : row) {
            for (int w = Math.max(-limit[d], n.wind - speed[d]); w <= Math.min(limit[d], n.wind + speed[d]); w++) {
                for (int h = Math.max(0, n.height - 1); h <= Math.min(6, n.height + 1); h++) {
                    if (!mayBe(w, h, t)) {
                        continue;
                    }
                    Node m = node(p, upTo, from, n, new int[] {t, w, h});
                    if (at[w + 36][h] == null || isBetter(m, at[w + 36][h])) {
                        at[w + 36][h] = m;
                    }
                }
            }
        }
        List<Node> next = new ArrayList<>();
        for (Node[] line : at) {
            for (Node m : line) {
                if (m != null) {
                    next.add(m);
                }
            }
        }
        next.sort((a, b) -> a.prev.rank != b.prev.rank ? a.prev.rank - b.prev.rank
            : a.wind != b.wind ? a.wind - b.wind : a.height - b.height);
        for (int i = 0; i < next.size(); i++) {
            next.get(i).rank = i;
        }
        return next;
    }

    Node best(int d, P p) {
        return best(d, p, p.points.size(), 0);
    }

    int offerOf(P p) {
        int best = -6;
        Node with = null;
        for (int d = 0; d < 4; d++) {
            Node n = best(d, p);
            if (n != null && (with == null || n.seen > with.seen || n.seen == with.seen && n.steps < with.steps)) {
                best = d;
                with = n;
            }
        }
        return best;
    }

    int takeIt(int d, P p) {
        Node end = best(d, p);
        for (Node n = end; n != null; n = n.prev) {
            if (n.sees) {
                looked.merge(List.of(side(n.wind), n.height), 1, Integer::sum);
            }
        }
        wind[d] = end.wind;
        height[d] = end.height;
        free[d] = end.tick + 1;
        p.by = d;
        p.seen = end.seen;
        return end.seen;
    }

    boolean isShut(P p) {
        return p.points.isEmpty() || p.by != -6;
    }

    int answer(String call, int[] a) {
        switch (call) {
            case "pass": return pass(a[0], a[1]);
            case "point": return point(a[0], a[1], a[2]);
            case "drop": {
                P p = find(a[0]);
                if (p == null) {
                    return -1;
                }
                passes.remove(p);
                return passes.size();
            }
            case "stand": return stand(a[0], a[1], a[2], a[3]);
            case "set": return set(a[0], a[1], a[2]);
            case "sun": return sun(a[0], a[1], a[2], a[3]);
            case "storm": {
                if (out(a[0], 0, 79) || out(a[1], 0, 79)) {
                    return -2;
                }
                storm = a[0] > a[1] ? null : new int[] {a[0], a[1]};
                return 1;
            }
            case "key": {
                if (out(a[0], 0, 6)) {
                    return -2;
                }
                int was = key;
                key = a[0];
                return was;
            }
            case "burnt":
                return out(a[0], 0, 23) || out(a[1], 0, 6) || out(a[2], 0, 79) ? -2 : isBurnt(a[0], a[1], a[2]) ? 1 : 0;
            case "told": return told(a[0], a[1]);
            case "order":
                return a[0] == -1 ? passes.size() : out(a[0], 0, passes.size() - 1) ? -6 : passes.get(a[0]).name;
            case "dish": return dish(a[0], a[1]);
            case "way": return way(a[0], a[1], a[2]);
            case "where": return where(a[0], a[1], a[2], a[3]);
            case "offer": return offer(a[0], a[1]);
            case "share": return share(a[0], a[1], a[2], a[3]);
            case "take": return take(a[0], a[1]);
            case "round": return round();
            case "looked":
                return out(a[0], 0, 23) || out(a[1], 0, 6) ? -2 : looked.getOrDefault(List.of(a[0], a[1]), 0);
            case "count": return count(a[0]);
            case "image": {
                if (out(a[0], 0, 1)) {
                    return -2;
                }
                images[a[0]] = new Model();
                images[a[0]].become(this);
                return 1;
            }
            case "restore": {
                if (out(a[0], 0, 1)) {
                    return -2;
                }
                if (images[a[0]] == null) {
                    return -3;
                }
                become(images[a[0]]);
                return 1;
            }
            default: throw new IllegalStateException(call);
        }
    }

    int pass(int name, int begin) {
        if (out(name, 0, 99) || out(begin, 0, 60)) {
            return -2;
        }
        if (find(name) != null) {
            return -5;
        }
        if (passes.size() == 8) {
            return -4;
        }
        P p = new P();
        p.name = name;
        p.begin = begin;
        passes.add(p);
        return passes.size();
    }

    int point(int name, int side, int h) {
        P p = find(name);
        if (p == null) {
            return -1;
        }
        if (out(side, 0, 23) || out(h, 0, 6)) {
            return -2;
        }
        if (p.by != -6) {
            return -3;
        }
        if (p.points.size() == 16) {
            return -4;
        }
        p.points.add(new int[] {side, h});
        return p.points.size();
    }

    int stand(int d, int w, int h, int t) {
        if (out(d, 0, 3)) {
            return -1;
        }
        if (out(w, -limit[d], limit[d]) || out(h, 0, 6) || out(t, 0, 79)) {
            return -2;
        }
        wind[d] = w;
        height[d] = h;
        free[d] = t;
        return 1;
    }

    int set(int d, int what, int n) {
        if (out(d, 0, 3)) {
            return -1;
        }
        if (out(what, 0, 1) || what == 0 && out(n, 12, 36) || what == 1 && out(n, 1, 3)) {
            return -2;
        }
        if (what == 0 && Math.abs(wind[d]) > n) {
            return -5;
        }
        int[] row = what == 0 ? limit : speed;
        int was = row[d];
        row[d] = n;
        return was;
    }

    int sun(int from, int every, int h, int c) {
        if (out(from, 0, 23) || out(every, 1, 40) || out(h, 0, 6) || out(c, -1, 3)) {
            return -2;
        }
        sunFrom = from;
        sunEvery = every;
        sunHeight = h;
        cone = c;
        return 1;
    }

    int told(int name, int what) {
        P p = find(name);
        if (p == null) {
            return -1;
        }
        if (out(what, 0, 4)) {
            return -2;
        }
        return new int[] {p.begin, p.points.size(), passes.indexOf(p), p.by, p.seen}[what];
    }

    int dish(int d, int what) {
        if (out(d, 0, 3)) {
            return -1;
        }
        if (out(what, 0, 5)) {
            return -2;
        }
        return new int[] {wind[d] + limit[d], height[d], free[d], limit[d], speed[d], side(wind[d])}[what];
    }

    int way(int d, int name, int what) {
        P p = find(name);
        if (p == null || out(d, 0, 3)) {
            return -1;
        }
        if (out(what, 0, 5)) {
            return -2;
        }
        if (isShut(p)) {
            return -3;
        }
        Node end = best(d, p);
        if (end == null) {
            return -6;
        }
        int first = -6;
        int last = -6;
        for (Node n = end; n != null; n = n.prev) {
            if (n.sees) {
                first = n.tick;
                last = Math.max(last, n.tick);
            }
        }
        return new int[] {end.seen, end.steps, first, last, end.wind + limit[d], end.height}[what];
    }

    int where(int d, int name, int tick, int what) {
        P p = find(name);
        if (p == null || out(d, 0, 3)) {
            return -1;
        }
        if (out(tick, 0, 79) || out(what, 0, 2)) {
            return -2;
        }
        if (isShut(p)) {
            return -3;
        }
        for (Node n = best(d, p); n != null; n = n.prev) {
            if (n.tick == tick) {
                return new int[] {n.wind + limit[d], n.height, n.sees ? 1 : 0}[what];
            }
        }
        return -6;
    }

    int offer(int name, int what) {
        P p = find(name);
        if (p == null) {
            return -1;
        }
        if (out(what, 0, 1)) {
            return -2;
        }
        if (isShut(p)) {
            return -3;
        }
        int d = offerOf(p);
        return d < 0 ? -6 : what == 0 ? d : best(d, p).seen;
    }

    int share(int name, int one, int other, int what) {
        P p = find(name);
        if (p == null || out(one, 0, 3) || out(other, 0, 3)) {
            return -1;
        }
        if (out(what, 0, 1) || one == other) {
            return -2;
        }
        if (isShut(p)) {
            return -3;
        }
        int size = p.points.size();
        int bestK = -1;
        int most = -1;
        for (int k = 0; k <= size; k++) {
            Node a = k == 0 ? null : best(one, p, k, 0);
            Node b = k == size ? null : best(other, p, size, k);
            int sum = (a == null ? 0 : a.seen) + (b == null ? 0 : b.seen);
            if (sum > most) {
                most = sum;
                bestK = k;
            }
        }
        return what == 0 ? bestK : most;
    }

    int take(int d, int name) {
        P p = find(name);
        if (p == null || out(d, 0, 3)) {
            return -1;
        }
        if (isShut(p)) {
            return -3;
        }
        return best(d, p) == null ? -5 : takeIt(d, p);
    }

    int round() {
        List<P> due = new ArrayList<>();
        for (P p : passes) {
            if (!isShut(p)) {
                due.add(p);
            }
        }
        due.sort((a, b) -> a.begin - b.begin);
        int n = 0;
        for (P p : due) {
            int d = offerOf(p);
            if (d >= 0 && best(d, p).seen > 0) {
                takeIt(d, p);
                n++;
            }
        }
        return n;
    }

    int count(int what) {
        int taken = 0;
        int points = 0;
        int looks = 0;
        for (P p : passes) {
            taken += p.by != -6 ? 1 : 0;
            points += p.points.size();
        }
        for (int n : looked.values()) {
            looks += n;
        }
        int kept = (images[0] != null ? 1 : 0) + (images[1] != null ? 2 : 0);
        int[] all = {passes.size(), taken, points, looks, looked.size(), key, sunFrom, sunHeight, cone + 1,
            storm == null ? -6 : storm[0], storm == null ? -6 : storm[1], kept};
        return out(what, 0, 11) ? -2 : all[what];
    }
}
