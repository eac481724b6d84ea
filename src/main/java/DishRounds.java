import java.util.Arrays;

/** Dishes that follow: the document's face, over a World that is kept and searched by the classes inside. */
public final class DishRounds {
    public static final int UNKNOWN = -1, OUTSIDE = -2, STATE = -3, FULL = -4, NO = -5, NONE = -6;

    private static final int SIDES = 24;
    private static final int HEIGHTS = 7;
    private static final int STRAIGHT_UP = 6;
    private static final int LAST_TICK = 79;
    private static final int LAST_NAME = 99;
    private static final int LAST_BEGIN = 60;
    private static final int MOST_PASSES = 8;
    private static final int MOST_POINTS = 16;
    private static final int DISHES = 4;
    private static final int LEAST_LIMIT = 12;
    private static final int MOST_LIMIT = 36;
    private static final int MOST_SPEED = 3;
    private static final int MOST_EVERY = 40;
    private static final int MOST_CONE = 3;
    private static final int IMAGES = 2;

    /** From TICK 0 to 75, the last one that a POINT can have. */
    private static final int ROWS = LAST_BEGIN + MOST_POINTS;
    private static final int CELLS = (2 * MOST_LIMIT + 1) * HEIGHTS;

    /** More than the STEPS of any WAY (4 a TICK at the most), so that one POINT more outweighs them all. */
    private static final int SEEN_WORTH = 1024;
    /** Far below what a WAY with STEPS alone is worth, so that no STEPS taken off or POINTS added bridge the gap. */
    private static final int DEAD = -1000000;
    private static final int DEAD_LINE = -500000;

    private final World now;
    private final World[] images;
    private final boolean[] kept;
    private final Search search;

    public DishRounds() {
        now = new World();
        images = new World[IMAGES];
        kept = new boolean[IMAGES];
        for (int k = 0; k < IMAGES; k++) {
            images[k] = new World();
        }
        search = new Search(now);
    }

    // ---- 1 passes, dishes, the sky

    public int pass(int name, int begin) {
        if (!isIn(name, 0, LAST_NAME) || !isIn(begin, 0, LAST_BEGIN)) {
            return OUTSIDE;
        }
        if (now.indexOf(name) >= 0) {
            return NO;
        }
        if (now.flightCount >= MOST_PASSES) {
            return FULL;
        }
        now.flights[now.flightCount].start(name, begin);
        now.flightCount++;
        search.forgetWays();
        return now.flightCount;
    }

    public int point(int name, int side, int height) {
        int i = now.indexOf(name);
        if (i < 0) {
            return UNKNOWN;
        }
        if (!isDirection(side, height)) {
            return OUTSIDE;
        }
        Flight flight = now.flights[i];
        if (flight.isTaken()) {
            return STATE;
        }
        if (flight.size >= MOST_POINTS) {
            return FULL;
        }
        flight.addPoint(side, height);
        search.forgetWays();
        return flight.size;
    }

    public int drop(int name) {
        int i = now.indexOf(name);
        if (i < 0) {
            return UNKNOWN;
        }
        now.removeFlight(i);
        search.forgetWays();
        return now.flightCount;
    }

    public int stand(int dish, int wind, int height, int free) {
        if (!isDish(dish)) {
            return UNKNOWN;
        }
        Mount mount = now.mounts[dish];
        if (!isIn(wind, -mount.limit, mount.limit) || !isHeight(height) || !isTick(free)) {
            return OUTSIDE;
        }
        mount.turnTo(wind, height, free);
        search.forgetWays();
        return 1;
    }

    public int set(int dish, int what, int n) {
        if (!isDish(dish)) {
            return UNKNOWN;
        }
        if (!isSetting(what, n)) {
            return OUTSIDE;
        }
        Mount mount = now.mounts[dish];
        if (what == 0 && !isIn(mount.wind, -n, n)) {
            return NO;
        }
        int before = what == 0 ? mount.limit : mount.speed;
        if (what == 0) {
            mount.limit = n;
        } else {
            mount.speed = n;
        }
        search.forgetWays();
        return before;
    }

    public int sun(int from, int every, int height, int cone) {
        if (!isSide(from) || !isIn(every, 1, MOST_EVERY) || !isHeight(height) || !isIn(cone, -1, MOST_CONE)) {
            return OUTSIDE;
        }
        now.sky.putSun(from, every, height, cone);
        search.forgetWays();
        return 1;
    }

    public int storm(int from, int till) {
        if (!isTick(from) || !isTick(till)) {
            return OUTSIDE;
        }
        now.sky.stormFrom = from;
        now.sky.stormTill = till;
        search.forgetWays();
        return 1;
    }

    public int key(int n) {
        if (!isHeight(n)) {
            return OUTSIDE;
        }
        int before = now.sky.highest;
        now.sky.highest = n;
        search.forgetWays();
        return before;
    }

    public int burnt(int side, int height, int tick) {
        if (!isDirection(side, height) || !isTick(tick)) {
            return OUTSIDE;
        }
        return now.sky.isBurnt(side, height, tick) ? 1 : 0;
    }

    // ---- 2 what is told

    public int told(int name, int what) {
        int i = now.indexOf(name);
        if (i < 0) {
            return UNKNOWN;
        }
        Flight flight = now.flights[i];
        switch (what) {
            case 0: return flight.begin;
            case 1: return flight.size;
            case 2: return i;
            case 3: return flight.taker;
            case 4: return flight.seenThen;
            default: return OUTSIDE;
        }
    }

    public int order(int i) {
        if (i == -1) {
            return now.flightCount;
        }
        return isIn(i, 0, now.flightCount - 1) ? now.flights[i].name : NONE;
    }

    public int dish(int dish, int what) {
        if (!isDish(dish)) {
            return UNKNOWN;
        }
        Mount mount = now.mounts[dish];
        switch (what) {
            case 0: return mount.wind + mount.limit;
            case 1: return mount.height;
            case 2: return mount.free;
            case 3: return mount.limit;
            case 4: return mount.speed;
            case 5: return sideOf(mount.wind);
            default: return OUTSIDE;
        }
    }

    public int way(int dish, int name, int what) {
        int i = now.indexOf(name);
        if (!isDish(dish) || i < 0) {
            return UNKNOWN;
        }
        if (!isIn(what, 0, 5)) {
            return OUTSIDE;
        }
        if (!now.flights[i].isOpen()) {
            return STATE;
        }
        Way best = search.bestWay(dish, now.flights[i]);
        if (!best.found) {
            return NONE;
        }
        switch (what) {
            case 0: return best.seen;
            case 1: return best.steps;
            case 2: return best.firstSeen;
            case 3: return best.lastSeen;
            case 4: return best.winds[best.last] + now.mounts[dish].limit;
            default: return best.heights[best.last];
        }
    }

    public int where(int dish, int name, int tick, int what) {
        int i = now.indexOf(name);
        if (!isDish(dish) || i < 0) {
            return UNKNOWN;
        }
        if (!isTick(tick) || !isIn(what, 0, 2)) {
            return OUTSIDE;
        }
        if (!now.flights[i].isOpen()) {
            return STATE;
        }
        Way best = search.bestWay(dish, now.flights[i]);
        if (!best.found || !isIn(tick, best.free, best.last)) {
            return NONE;
        }
        switch (what) {
            case 0: return best.winds[tick] + now.mounts[dish].limit;
            case 1: return best.heights[tick];
            default: return best.sights[tick] ? 1 : 0;
        }
    }

    public int offer(int name, int what) {
        int i = now.indexOf(name);
        if (i < 0) {
            return UNKNOWN;
        }
        if (!isIn(what, 0, 1)) {
            return OUTSIDE;
        }
        if (!now.flights[i].isOpen()) {
            return STATE;
        }
        int best = bestDish(now.flights[i]);
        if (!isDish(best)) {
            return NONE;
        }
        return what == 0 ? best : search.bestWay(best, now.flights[i]).seen;
    }

    public int share(int name, int one, int other, int what) {
        int i = now.indexOf(name);
        if (i < 0 || !isDish(one) || !isDish(other)) {
            return UNKNOWN;
        }
        if (!isIn(what, 0, 1) || one == other) {
            return OUTSIDE;
        }
        if (!now.flights[i].isOpen()) {
            return STATE;
        }
        Way first = search.sharedWay(one, now.flights[i]);
        Way second = search.sharedWay(other, now.flights[i]);
        int k = bestHandOver(first, second, now.flights[i].size);
        return what == 0 ? k : first.seenBefore[k] + second.seenFrom[k];
    }

    // ---- 3 passes taken

    public int take(int dish, int name) {
        int i = now.indexOf(name);
        if (!isDish(dish) || i < 0) {
            return UNKNOWN;
        }
        Flight flight = now.flights[i];
        if (!flight.isOpen()) {
            return STATE;
        }
        Way best = search.bestWay(dish, flight);
        if (!best.found) {
            return NO;
        }
        goAlong(dish, flight, best);
        return flight.seenThen;
    }

    public int round() {
        int tried = 0;
        int taken = 0;
        for (int n = 0; n < MOST_PASSES; n++) {
            int i = now.nextOpen(tried);
            if (i < 0) {
                break;
            }
            tried |= 1 << i;
            Flight flight = now.flights[i];
            int best = bestDish(flight);
            if (isDish(best) && search.bestWay(best, flight).seen > 0) {
                goAlong(best, flight, search.bestWay(best, flight));
                taken++;
            }
        }
        return taken;
    }

    public int looked(int side, int height) {
        if (!isDirection(side, height)) {
            return OUTSIDE;
        }
        return now.looks[side * HEIGHTS + height];
    }

    public int count(int what) {
        Sky sky = now.sky;
        switch (what) {
            case 0: return now.flightCount;
            case 1: return now.takenFlights();
            case 2: return now.allPoints();
            case 3: return now.allLooks();
            case 4: return now.unlikeLooks();
            case 5: return sky.highest;
            case 6: return sky.sunFrom;
            case 7: return sky.sunHeight;
            case 8: return sky.cone + 1;
            case 9: return sky.hasStorm() ? sky.stormFrom : NONE;
            case 10: return sky.hasStorm() ? sky.stormTill : NONE;
            case 11: return (kept[0] ? 1 : 0) + (kept[1] ? 2 : 0);
            default: return OUTSIDE;
        }
    }

    // ---- 4 images

    public int image(int k) {
        if (!isIn(k, 0, IMAGES - 1)) {
            return OUTSIDE;
        }
        images[k].copyFrom(now);
        kept[k] = true;
        return 1;
    }

    public int restore(int k) {
        if (!isIn(k, 0, IMAGES - 1)) {
            return OUTSIDE;
        }
        if (!kept[k]) {
            return STATE;
        }
        now.copyFrom(images[k]);
        search.forgetWays();
        return 1;
    }

    // ---- what the calls share

    private static boolean isIn(int n, int least, int most) {
        return least <= n && n <= most;
    }

    private static boolean isDish(int n) {
        return isIn(n, 0, DISHES - 1);
    }

    private static boolean isSide(int n) {
        return isIn(n, 0, SIDES - 1);
    }

    private static boolean isHeight(int n) {
        return isIn(n, 0, STRAIGHT_UP);
    }

    private static boolean isDirection(int side, int height) {
        return isSide(side) && isHeight(height);
    }

    private static boolean isTick(int n) {
        return isIn(n, 0, LAST_TICK);
    }

    private static boolean isSetting(int what, int n) {
        return what == 0 && isIn(n, LEAST_LIMIT, MOST_LIMIT) || what == 1 && isIn(n, 1, MOST_SPEED);
    }

    /** No WIND is below two turns back. */
    private static int sideOf(int wind) {
        return (wind + 2 * SIDES) % SIDES;
    }

    private int bestDish(Flight flight) {
        int best = NONE;
        for (int d = 0; d < DISHES; d++) {
            Way mine = search.bestWay(d, flight);
            if (mine.found && (!isDish(best) || mine.isBetterThan(search.bestWay(best, flight)))) {
                best = d;
            }
        }
        return best;
    }

    private static int bestHandOver(Way first, Way second, int size) {
        int best = 0;
        for (int k = 1; k <= size; k++) {
            if (first.seenBefore[k] + second.seenFrom[k] > first.seenBefore[best] + second.seenFrom[best]) {
                best = k;
            }
        }
        return best;
    }

    private void goAlong(int dish, Flight flight, Way best) {
        for (int k = 0; k < flight.size; k++) {
            if (best.sights[flight.begin + k]) {
                now.looks[flight.sides[k] * HEIGHTS + flight.heights[k]]++;
            }
        }
        now.mounts[dish].turnTo(best.winds[best.last], best.heights[best.last], best.last + 1);
        flight.taker = dish;
        flight.seenThen = best.seen;
        search.forgetWays();
    }

    /** All that an IMAGE keeps. */
    private static final class World {
        final Flight[] flights = new Flight[MOST_PASSES];
        final Mount[] mounts = new Mount[DISHES];
        final Sky sky = new Sky();
        final int[] looks = new int[SIDES * HEIGHTS];
        int flightCount = 0;

        World() {
            for (int i = 0; i < MOST_PASSES; i++) {
                flights[i] = new Flight();
            }
            for (int d = 0; d < DISHES; d++) {
                mounts[d] = new Mount();
            }
        }

        void copyFrom(World other) {
            for (int i = 0; i < MOST_PASSES; i++) {
                flights[i].copyFrom(other.flights[i]);
            }
            for (int d = 0; d < DISHES; d++) {
                mounts[d].copyFrom(other.mounts[d]);
            }
            sky.copyFrom(other.sky);
            System.arraycopy(other.looks, 0, looks, 0, looks.length);
            flightCount = other.flightCount;
        }

        int indexOf(int name) {
            for (int i = 0; i < flightCount; i++) {
                if (flights[i].name == name) {
                    return i;
                }
            }
            return -1;
        }

        /** The one that goes is put behind the others, where a later one is made of it. */
        void removeFlight(int index) {
            Flight gone = flights[index];
            for (int i = index; i < flightCount - 1; i++) {
                flights[i] = flights[i + 1];
            }
            flightCount--;
            flights[flightCount] = gone;
        }

        /** Of the open ones whose bit is not in tried, the first of the least begin; -1 if there is none. */
        int nextOpen(int tried) {
            int next = -1;
            for (int i = 0; i < flightCount; i++) {
                boolean isDue = flights[i].isOpen() && (tried >> i & 1) == 0;
                if (isDue && (next < 0 || flights[i].begin < flights[next].begin)) {
                    next = i;
                }
            }
            return next;
        }

        int takenFlights() {
            int sum = 0;
            for (int i = 0; i < flightCount; i++) {
                if (flights[i].isTaken()) {
                    sum++;
                }
            }
            return sum;
        }

        int allPoints() {
            int sum = 0;
            for (int i = 0; i < flightCount; i++) {
                sum += flights[i].size;
            }
            return sum;
        }

        int allLooks() {
            int sum = 0;
            for (int i = 0; i < looks.length; i++) {
                sum += looks[i];
            }
            return sum;
        }

        int unlikeLooks() {
            int sum = 0;
            for (int i = 0; i < looks.length; i++) {
                if (looks[i] > 0) {
                    sum++;
                }
            }
            return sum;
        }
    }

    /** A PASS. */
    private static final class Flight {
        final int[] sides = new int[MOST_POINTS];
        final int[] heights = new int[MOST_POINTS];
        int name = NONE;
        int begin = 0;
        int size = 0;
        int taker = NONE;
        int seenThen = NONE;

        void start(int newName, int newBegin) {
            name = newName;
            begin = newBegin;
            size = 0;
            taker = NONE;
            seenThen = NONE;
        }

        void addPoint(int side, int height) {
            if (size < MOST_POINTS) {
                sides[size] = side;
                heights[size] = height;
                size++;
            }
        }

        boolean isTaken() {
            return taker != NONE;
        }

        boolean isOpen() {
            return size > 0 && !isTaken();
        }

        int lastTick() {
            return begin + size - 1;
        }

        void copyFrom(Flight other) {
            System.arraycopy(other.sides, 0, sides, 0, MOST_POINTS);
            System.arraycopy(other.heights, 0, heights, 0, MOST_POINTS);
            name = other.name;
            begin = other.begin;
            size = other.size;
            taker = other.taker;
            seenThen = other.seenThen;
        }
    }

    /** A DISH. */
    private static final class Mount {
        int wind = 0;
        int height = STRAIGHT_UP;
        int free = 0;
        int limit = 24;
        int speed = 1;

        void turnTo(int newWind, int newHeight, int newFree) {
            wind = newWind;
            height = newHeight;
            free = newFree;
        }

        void copyFrom(Mount other) {
            turnTo(other.wind, other.height, other.free);
            limit = other.limit;
            speed = other.speed;
        }
    }

    /** THE SUN, the STORM, KEY. */
    private static final class Sky {
        int sunFrom = 0;
        int sunEvery = 10;
        int sunHeight = 3;
        int cone = -1;
        int stormFrom = 1;
        int stormTill = 0;
        int highest = 5;

        void putSun(int from, int every, int height, int newCone) {
            sunFrom = from;
            sunEvery = every;
            sunHeight = height;
            cone = newCone;
        }

        boolean isSunSide(int side, int tick) {
            int turned = sunEvery > 0 ? tick / sunEvery : 0;
            int apart = Math.abs(side - (sunFrom + turned) % SIDES);
            return Math.min(apart, SIDES - apart) <= cone;
        }

        boolean isSunHeight(int height) {
            return Math.abs(height - sunHeight) <= cone;
        }

        boolean isBurnt(int side, int height, int tick) {
            return isSunSide(side, tick) && isSunHeight(height);
        }

        boolean hasStorm() {
            return stormFrom <= stormTill;
        }

        boolean isStormy(int tick) {
            return isIn(tick, stormFrom, stormTill);
        }

        void copyFrom(Sky other) {
            putSun(other.sunFrom, other.sunEvery, other.sunHeight, other.cone);
            stormFrom = other.stormFrom;
            stormTill = other.stormTill;
            highest = other.highest;
        }
    }

    /** THE WAY of a DISH for the PASS of this name (NONE: it is yet to be worked out), by TICKS. */
    private static final class Way {
        final int[] winds = new int[ROWS];
        final int[] heights = new int[ROWS];
        final boolean[] sights = new boolean[ROWS];
        /** Most POINTS that the DISH can see, if the PASS had its first k alone. */
        final int[] seenBefore = new int[MOST_POINTS + 1];
        /** Most POINTS that it can see, if those before the k-th could not be seen. */
        final int[] seenFrom = new int[MOST_POINTS + 1];
        int name = NONE;
        boolean found = false;
        /** Whether seenBefore and seenFrom are worked out, too. */
        boolean isShared = false;
        int free = 0;
        int last = 0;
        int seen = 0;
        int steps = 0;
        int firstSeen = NONE;
        int lastSeen = NONE;

        void clear(int newName) {
            name = newName;
            Arrays.fill(seenBefore, 0);
            Arrays.fill(seenFrom, 0);
            for (int t = 0; t < ROWS; t++) {
                sights[t] = false;
            }
            found = false;
            isShared = false;
            seen = 0;
            steps = 0;
            firstSeen = NONE;
            lastSeen = NONE;
        }

        void startAt(int wind, int height, int tick) {
            found = true;
            free = tick;
            last = tick;
            winds[tick] = wind;
            heights[tick] = height;
        }

        void goTo(int wind, int height) {
            steps += Math.abs(wind - winds[last]) + Math.abs(height - heights[last]);
            last++;
            winds[last] = wind;
            heights[last] = height;
        }

        /** The POINT of the last TICK so far is SEEN. */
        void see() {
            sights[last] = true;
            seen++;
            lastSeen = last;
            if (firstSeen == NONE) {
                firstSeen = last;
            }
        }

        boolean isBetterThan(Way other) {
            return seen > other.seen || seen == other.seen && steps < other.steps;
        }
    }

    /**
     * Works out THE WAYS. What a WAY is worth is one number: SEEN_WORTH for each POINT that is SEEN, less the STEPS.
     * A row is a TICK, from FREE on; its cells are WINDS (LIMIT added) and HEIGHTS. From the last row back each cell
     * gets the most that the rest of a WAY from it on is worth. By these THE WAY is followed, TICK by TICK, to the
     * least cell that keeps the most. What HANDED OVER asks for takes a second walk, forth from the first row.
     */
    private static final class Search {
        private final World world;
        /** For each DISH that of the PASS for which it was last asked, as the same one is often asked for again. */
        private final Way[] ways = new Way[DISHES];
        /** Of each row and cell, the most that the rest of a WAY from it on is worth. */
        private final int[] rest = new int[ROWS * CELLS];
        /** Of each cell of one row, the most that a WAY to it is worth. */
        private final int[] front = new int[CELLS];
        /** With a WIND more at either end that stays dead, so that each one has a neighbour on both sides. */
        private int[] reached = new int[CELLS + 2 * HEIGHTS];
        private int[] spare = new int[CELLS + 2 * HEIGHTS];
        private Mount mount;
        private Flight flight;
        private int rows = 0;
        private int goalSide = NONE;
        private int goalHeight = NONE;

        Search(World searched) {
            world = searched;
            mount = searched.mounts[0];
            flight = searched.flights[0];
            for (int d = 0; d < DISHES; d++) {
                ways[d] = new Way();
            }
        }

        /** Due whenever anything by which a WAY goes is changed. */
        void forgetWays() {
            for (int d = 0; d < DISHES; d++) {
                ways[d].name = NONE;
            }
        }

        Way bestWay(int dish, Flight forFlight) {
            Way best = ways[dish];
            if (best.name != forFlight.name) {
                mount = world.mounts[dish];
                flight = forFlight;
                rows = Math.min(ROWS, flight.lastTick() - mount.free + 1);
                best.clear(flight.name);
                goBack();
                follow(best);
            }
            return best;
        }

        /** THE WAY with what is seen of parts of the PASS; unless it has that, the rests are needed anew, too. */
        Way sharedWay(int dish, Flight forFlight) {
            Way best = ways[dish];
            if (!best.isShared) {
                best.name = NONE;
            }
            bestWay(dish, forFlight);
            if (!best.isShared) {
                goForth(best);
            }
            return best;
        }

        private void goBack() {
            Arrays.fill(reached, 0);
            for (int row = rows - 1; row >= 0; row--) {
                if (row < rows - 1) {
                    reach(rest, (row + 1) * CELLS, row + 1);
                }
                enterRow(rest, row * CELLS, row);
                aimAt(row);
                addGain(rest, row * CELLS, row);
            }
        }

        private void follow(Way found) {
            int wind = mount.wind + mount.limit;
            int height = mount.height;
            if (rows < 1 || isDead(rest[cell(0, wind, height)])) {
                return;
            }
            for (int row = 0; row < rows; row++) {
                if (row == 0) {
                    found.startAt(mount.wind, height, mount.free);
                } else {
                    int next = nextCell(row, wind, height);
                    wind = next / HEIGHTS;
                    height = next % HEIGHTS;
                    found.goTo(wind - mount.limit, height);
                }
                aimAt(row);
                if (gain(wind, height) > 0) {
                    found.see();
                }
            }
        }

        /** From a cell of the row before, which is still aimed at, the least one by which the most is kept. */
        private int nextCell(int row, int wind, int height) {
            int due = rest[cell(row - 1, wind, height)] - gain(wind, height);
            int lastWind = Math.min(highWind(row), wind + mount.speed);
            int lastHeight = Math.min(STRAIGHT_UP, height + 1);
            for (int w = Math.max(lowWind(row), wind - mount.speed); w <= lastWind; w++) {
                for (int h = Math.max(0, height - 1); h <= lastHeight; h++) {
                    if (rest[cell(row, w, h)] - Math.abs(w - wind) - Math.abs(h - height) == due) {
                        return w * HEIGHTS + h;
                    }
                }
            }
            return wind * HEIGHTS + height;
        }

        /** Behind goBack, whose rests it reads: in which cells one can be, and with how much SEEN before and behind. */
        private void goForth(Way found) {
            found.isShared = true;
            Arrays.fill(reached, 0);
            for (int row = 0; row < rows; row++) {
                if (row > 0) {
                    reach(front, 0, row - 1);
                }
                enterRow(front, 0, row);
                aimAt(row);
                addGain(front, 0, row);
                int k = pointOf(row);
                if (k >= 0) {
                    found.seenBefore[k + 1] = mostSeen(front, 0, row);
                    found.seenFrom[k] = mostSeen(rest, row * CELLS, row);
                }
            }
            for (int k = 0; k < flight.size && flight.begin + k < mount.free; k++) {
                found.seenFrom[k] = found.seen;
            }
        }

        /** The most that is got from the cells of a row by one TICK, STEPS taken off: forth or back, moves are alike. */
        private void reach(int[] cells, int start, int row) {
            Arrays.fill(reached, DEAD);
            Arrays.fill(spare, DEAD);
            int low = lowWind(row);
            int high = highWind(row);
            tilt(cells, start, low, high);
            for (int n = 0; n < mount.speed; n++) {
                low = Math.max(0, low - 1);
                high = Math.min(2 * mount.limit, high + 1);
                turn(low, high);
            }
        }

        /** A HEIGHT up or down, or none. */
        private void tilt(int[] cells, int start, int low, int high) {
            for (int w = low; w <= high; w++) {
                int from = start + w * HEIGHTS;
                int to = (w + 1) * HEIGHTS;
                for (int h = 0; h < HEIGHTS; h++) {
                    int most = cells[from + h];
                    if (h > 0 && cells[from + h - 1] - 1 > most) {
                        most = cells[from + h - 1] - 1;
                    }
                    if (h < STRAIGHT_UP && cells[from + h + 1] - 1 > most) {
                        most = cells[from + h + 1] - 1;
                    }
                    reached[to + h] = most;
                }
            }
        }

        /** A WIND either way, or none. */
        private void turn(int low, int high) {
            int end = (high + 2) * HEIGHTS;
            for (int i = (low + 1) * HEIGHTS; i < end; i++) {
                int most = reached[i];
                if (reached[i - HEIGHTS] - 1 > most) {
                    most = reached[i - HEIGHTS] - 1;
                }
                if (reached[i + HEIGHTS] - 1 > most) {
                    most = reached[i + HEIGHTS] - 1;
                }
                spare[i] = most;
            }
            int[] turned = spare;
            spare = reached;
            reached = turned;
        }

        /** In the first row, at FREE, the DISH stands as it does: neither THE SUN nor the STORM is asked. */
        private void enterRow(int[] cells, int start, int row) {
            int tick = mount.free + row;
            boolean isStormy = row > 0 && world.sky.isStormy(tick);
            int end = highWind(row);
            for (int w = lowWind(row); w <= end; w++) {
                boolean isSunny = row > 0 && world.sky.isSunSide(sideOf(w - mount.limit), tick);
                int from = (w + 1) * HEIGHTS;
                int to = start + w * HEIGHTS;
                for (int h = 0; h < HEIGHTS; h++) {
                    boolean isShut = row == 0 && h != mount.height || isStormy && h != STRAIGHT_UP
                        || isSunny && world.sky.isSunHeight(h);
                    cells[to + h] = isShut ? DEAD : reached[from + h];
                }
            }
        }

        /** From here on gain is that of the POINT of this row's TICK, if there is one that can be SEEN. */
        private void aimAt(int row) {
            int tick = mount.free + row;
            int k = pointOf(row);
            goalSide = NONE;
            goalHeight = NONE;
            if (k >= 0 && flight.heights[k] <= world.sky.highest
                    && !world.sky.isBurnt(flight.sides[k], flight.heights[k], tick)) {
                goalSide = flight.sides[k];
                goalHeight = flight.heights[k];
            }
        }

        private void addGain(int[] cells, int start, int row) {
            if (!isHeight(goalHeight)) {
                return;
            }
            int end = highWind(row);
            for (int w = lowWind(row); w <= end; w++) {
                int at = start + w * HEIGHTS + goalHeight;
                if (!isDead(cells[at])) {
                    cells[at] += gain(w, goalHeight);
                }
            }
        }

        private int gain(int wind, int height) {
            return height == goalHeight && sideOf(wind - mount.limit) == goalSide ? SEEN_WORTH : 0;
        }

        /** Which POINT is at this row's TICK; -1 if none is. */
        private int pointOf(int row) {
            int k = mount.free + row - flight.begin;
            return isIn(k, 0, flight.size - 1) ? k : -1;
        }

        /**
         * The most of the cells of a row in which one can be. Rounded up, as the STEPS that were taken off are less
         * than one POINT is worth; 0 if all are dead.
         */
        private int mostSeen(int[] cells, int start, int row) {
            int most = DEAD;
            int end = (highWind(row) + 1) * HEIGHTS;
            for (int i = lowWind(row) * HEIGHTS; i < end; i++) {
                if (!isDead(front[i])) {
                    most = Math.max(most, cells[start + i]);
                }
            }
            return isDead(most) ? 0 : (most + SEEN_WORTH - 1) / SEEN_WORTH;
        }

        /** No WAY is beyond these WINDS in this row, so no cell beyond them is ever looked at. */
        private int lowWind(int row) {
            return Math.max(0, mount.wind + mount.limit - row * mount.speed);
        }

        private int highWind(int row) {
            return Math.min(2 * mount.limit, mount.wind + mount.limit + row * mount.speed);
        }

        private static int cell(int row, int wind, int height) {
            return row * CELLS + wind * HEIGHTS + height;
        }

        private static boolean isDead(int value) {
            return value < DEAD_LINE;
        }
    }
}
