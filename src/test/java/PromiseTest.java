/** Each promise of the document by hand: ordinary inputs, the edges that it names, wrong inputs, the order of refusals. */
public final class PromiseTest {
    private static final int MIN = Integer.MIN_VALUE;
    private static final int MAX = Integer.MAX_VALUE;
    private static int wrong = 0;

    private static void due(String what, int got, int want) {
        if (got != want) {
            wrong++;
            System.out.println(what + " answered " + got + ", due is " + want);
        }
    }

    /** A pass with points given as side, height, side, height, .. */
    private static void track(DishRounds x, int name, int begin, int... points) {
        x.pass(name, begin);
        for (int i = 0; i + 1 < points.length; i += 2) {
            x.point(name, points[i], points[i + 1]);
        }
    }

    private static void dishIs(String what, DishRounds x, int dish, int... six) {
        for (int i = 0; i < 6; i++) {
            due(what + ": dish(" + dish + ", " + i + ")", x.dish(dish, i), six[i]);
        }
    }

    private static void counts(String what, DishRounds x, int... twelve) {
        for (int i = 0; i < 12; i++) {
            due(what + ": count(" + i + ")", x.count(i), twelve[i]);
        }
    }

    private static void wayIs(String what, DishRounds x, int dish, int name, int... six) {
        for (int i = 0; i < 6; i++) {
            due(what + ": way(" + dish + ", " + name + ", " + i + ")", x.way(dish, name, i), six[i]);
        }
    }

    private static void promise1New() {
        DishRounds x = new DishRounds();
        counts("1 new", x, 0, 0, 0, 0, 0, 5, 0, 3, 0, -6, -6, 0);
        for (int d = 0; d < 4; d++) {
            dishIs("1 new", x, d, 24, 6, 0, 24, 1, 0);
        }
        for (int side = 0; side < 24; side++) {
            for (int h = 0; h < 7; h++) {
                due("1 looked(" + side + ", " + h + ")", x.looked(side, h), 0);
                due("1 burnt by cone -1", x.burnt(side, h, side), 0);
            }
        }
        due("1 restore(0)", x.restore(0), -3);
        due("1 restore(1)", x.restore(1), -3);
        due("1 order(-1)", x.order(-1), 0);
        due("1 order(0)", x.order(0), -6);
        due("1 round()", x.round(), 0);
        due("1 told(-6, 0)", x.told(-6, 0), -1);
    }

    private static void promise2Pass() {
        DishRounds x = new DishRounds();
        for (int bad : new int[] {-1, 100, MIN, MAX, -6}) {
            due("2 pass(" + bad + ", 0)", x.pass(bad, 0), -2);
        }
        for (int bad : new int[] {-1, 61, MIN, MAX}) {
            due("2 pass(0, " + bad + ")", x.pass(0, bad), -2);
        }
        due("2 first", x.pass(99, 60), 1);
        due("2 second", x.pass(0, 0), 2);
        due("2 of one name", x.pass(99, 5), -5);
        due("2 outside before no", x.pass(99, 61), -2);
        for (int n = 3; n <= 8; n++) {
            due("2 more", x.pass(10 + n, 7), n);
        }
        due("2 full", x.pass(1, 0), -4);
        due("2 no before full", x.pass(0, 0), -5);
        due("2 outside before full", x.pass(1, 61), -2);
        due("2 refused changes nothing", x.count(0), 8);
        due("2 begin stays", x.told(99, 0), 60);
        due("2 drop", x.drop(0), 7);
        due("2 room again", x.pass(1, 0), 8);
        due("2 without points", x.told(1, 1), 0);
    }

    private static void promise3Point() {
        DishRounds x = new DishRounds();
        due("3 unknown before outside", x.point(4, 99, 99), -1);
        x.pass(4, 10);
        for (int bad : new int[] {-1, 24, MIN, MAX}) {
            due("3 side " + bad, x.point(4, bad, 0), -2);
        }
        for (int bad : new int[] {-1, 7, MIN, MAX}) {
            due("3 height " + bad, x.point(4, 0, bad), -2);
        }
        due("3 unknown", x.point(-6, 0, 0), -1);
        for (int n = 1; n <= 16; n++) {
            due("3 point " + n, x.point(4, n == 1 ? 23 : 0, n == 1 ? 6 : 0), n);
        }
        due("3 full", x.point(4, 0, 0), -4);
        due("3 outside before full", x.point(4, 24, 0), -2);
        due("3 how many", x.told(4, 1), 16);
        due("3 take", x.take(0, 4), x.told(4, 4));
        due("3 state before full", x.point(4, 0, 0), -3);
        due("3 outside before state", x.point(4, 0, 7), -2);
    }

    private static void promise4Drop() {
        DishRounds x = new DishRounds();
        due("4 unknown", x.drop(0), -1);
        track(x, 1, 1, 0, 5);
        track(x, 2, 2, 0, 4);
        track(x, 3, 3, 0, 3, 0, 2);
        due("4 middle", x.drop(2), 2);
        due("4 order", x.order(0) * 100 + x.order(1), 103);
        due("4 behind", x.order(2), -6);
        due("4 gone", x.drop(2), -1);
        due("4 gone", x.told(2, 0), -1);
        due("4 the other", x.told(3, 1), 2);
        x.take(0, 1);
        due("4 taken", x.drop(1), 1);
        due("4 looked stays", x.looked(0, 5), 1);
        due("4 again", x.pass(1, 9), 2);
        due("4 again without points", x.told(1, 1), 0);
        due("4 again not taken", x.told(1, 3), -6);
        due("4 again not seen", x.told(1, 4), -6);
        due("4 again last", x.told(1, 2), 1);
        due("4 last", x.drop(1) * 10 + x.drop(3), 10);
        due("4 none", x.drop(MIN), -1);
    }

    private static void promise5Stand() {
        DishRounds x = new DishRounds();
        for (int bad : new int[] {-1, 4, MIN, MAX}) {
            due("5 dish " + bad, x.stand(bad, 99, 99, 99), -1);
        }
        for (int bad : new int[] {-25, 25, MIN, MAX}) {
            due("5 wind " + bad, x.stand(0, bad, 0, 0), -2);
        }
        for (int bad : new int[] {-1, 7, MIN, MAX}) {
            due("5 height " + bad, x.stand(0, 0, bad, 0), -2);
        }
        for (int bad : new int[] {-1, 80, MIN, MAX}) {
            due("5 free " + bad, x.stand(0, 0, 0, bad), -2);
        }
        dishIs("5 refused", x, 0, 24, 6, 0, 24, 1, 0);
        due("5 edge", x.stand(3, -24, 0, 79), 1);
        dishIs("5 edge", x, 3, 0, 0, 79, 24, 1, 0);
        due("5 edge", x.stand(3, 24, 6, 0), 1);
        dishIs("5 edge", x, 3, 48, 6, 0, 24, 1, 0);
        x.set(3, 0, 36);
        due("5 wider", x.stand(3, -36, 1, 2), 1);
        dishIs("5 wider", x, 3, 0, 1, 2, 36, 1, 12);
        due("5 beyond", x.stand(3, 37, 1, 2), -2);
        x.stand(3, 0, 6, 0);
        x.set(3, 0, 12);
        due("5 narrower", x.stand(3, 13, 1, 2), -2);
        due("5 the others stay", x.dish(2, 1), 6);
    }

    private static void promise6Set() {
        DishRounds x = new DishRounds();
        for (int bad : new int[] {-1, 4, MIN, MAX}) {
            due("6 dish " + bad, x.set(bad, 9, 99), -1);
        }
        for (int bad : new int[] {-1, 2, MIN, MAX}) {
            due("6 what " + bad, x.set(0, bad, 1), -2);
            due("6 what " + bad, x.set(0, bad, 20), -2);
        }
        for (int bad : new int[] {11, 37, 1, MIN, MAX}) {
            due("6 limit " + bad, x.set(0, 0, bad), -2);
        }
        for (int bad : new int[] {0, 4, 24, MIN, MAX}) {
            due("6 speed " + bad, x.set(0, 1, bad), -2);
        }
        due("6 limit", x.set(0, 0, 36), 24);
        due("6 limit", x.set(0, 0, 12), 36);
        due("6 speed", x.set(0, 1, 3), 1);
        due("6 speed", x.set(0, 1, 2), 3);
        dishIs("6", x, 0, 12, 6, 0, 12, 2, 0);
        dishIs("6 the others stay", x, 1, 24, 6, 0, 24, 1, 0);
        x.stand(1, -15, 6, 0);
        due("6 wind beyond", x.set(1, 0, 14), -5);
        due("6 outside before no", x.set(1, 0, 11), -2);
        due("6 refused changes nothing", x.dish(1, 3), 24);
        due("6 wind at the limit", x.set(1, 0, 15), 24);
        due("6 wind at the limit", x.dish(1, 0), 0);
        x.stand(2, 20, 6, 0);
        due("6 wind beyond", x.set(2, 0, 19), -5);
        due("6 speed is not refused by wind", x.set(2, 1, 1), 1);
    }

    private static void promise7Sun() {
        DishRounds x = new DishRounds();
        for (int bad : new int[] {-1, 24, MIN, MAX}) {
            due("7 from " + bad, x.sun(bad, 1, 0, 0), -2);
        }
        for (int bad : new int[] {0, -1, 41, MIN, MAX}) {
            due("7 every " + bad, x.sun(0, bad, 0, 0), -2);
        }
        for (int bad : new int[] {-1, 7, MIN, MAX}) {
            due("7 height " + bad, x.sun(0, 1, bad, 0), -2);
        }
        for (int bad : new int[] {-2, 4, MIN, MAX}) {
            due("7 cone " + bad, x.sun(0, 1, 0, bad), -2);
        }
        counts("7 refused", x, 0, 0, 0, 0, 0, 5, 0, 3, 0, -6, -6, 0);
        due("7", x.sun(23, 40, 6, 3), 1);
        counts("7", x, 0, 0, 0, 0, 0, 5, 23, 6, 4, -6, -6, 0);
        due("7", x.sun(0, 1, 0, -1), 1);
        counts("7", x, 0, 0, 0, 0, 0, 5, 0, 0, 0, -6, -6, 0);
    }

    private static void promise8Storm() {
        DishRounds x = new DishRounds();
        for (int bad : new int[] {-1, 80, MIN, MAX}) {
            due("8 from " + bad, x.storm(bad, 79), -2);
            due("8 till " + bad, x.storm(0, bad), -2);
        }
        due("8 refused", x.count(9), -6);
        due("8", x.storm(0, 79), 1);
        due("8 from", x.count(9), 0);
        due("8 till", x.count(10), 79);
        due("8 one tick", x.storm(5, 5), 1);
        due("8 from", x.count(9), 5);
        due("8 till", x.count(10), 5);
        due("8 none", x.storm(6, 5), 1);
        due("8 from", x.count(9), -6);
        due("8 till", x.count(10), -6);
        x.stand(0, 0, 5, 4);
        track(x, 1, 5, 0, 5);
        due("8 none is asked", x.way(0, 1, 0), 1);
        x.storm(5, 5);
        due("8 one is asked", x.way(0, 1, 0), 0);
        due("8 up", x.way(0, 1, 5), 6);
        x.storm(6, 9);
        due("8 later", x.way(0, 1, 0), 1);
    }

    private static void promise9Key() {
        DishRounds x = new DishRounds();
        for (int bad : new int[] {-1, 7, MIN, MAX}) {
            due("9 " + bad, x.key(bad), -2);
        }
        due("9", x.key(0), 5);
        due("9", x.key(6), 0);
        due("9", x.count(5), 6);
        track(x, 1, 0, 0, 6);
        due("9 at the key", x.way(0, 1, 0), 1);
        due("9", x.key(5), 6);
        due("9 above it", x.way(0, 1, 0), 0);
    }

    private static void promise10Burnt() {
        DishRounds x = new DishRounds();
        x.sun(23, 10, 2, 2);
        for (int bad : new int[] {-1, 24, MIN, MAX}) {
            due("10 side " + bad, x.burnt(bad, 0, 0), -2);
        }
        for (int bad : new int[] {-1, 7, MIN, MAX}) {
            due("10 height " + bad, x.burnt(0, bad, 0), -2);
        }
        for (int bad : new int[] {-1, 80, MIN, MAX}) {
            due("10 tick " + bad, x.burnt(0, 0, bad), -2);
        }
        for (int side = 0; side < 24; side++) {
            boolean near = side >= 21 || side <= 1;
            boolean nearLater = side >= 22 || side <= 2;
            for (int h = 0; h < 7; h++) {
                due("10 at 9, " + side + " " + h, x.burnt(side, h, 9), near && h <= 4 ? 1 : 0);
                due("10 at 10, " + side + " " + h, x.burnt(side, h, 10), nearLater && h <= 4 ? 1 : 0);
            }
        }
        x.sun(20, 1, 6, 0);
        due("10 far around", x.burnt(3, 6, 79), 1);
        due("10 cone 0", x.burnt(2, 6, 79), 0);
        due("10 cone 0", x.burnt(3, 5, 79), 0);
        x.sun(20, 1, 6, -1);
        due("10 cone -1", x.burnt(3, 6, 79), 0);
        x.sun(12, 40, 3, 3);
        due("10 cone 3", x.burnt(9, 0, 39) * 10 + x.burnt(8, 3, 39), 10);
        due("10 cone 3", x.burnt(15, 6, 39) * 10 + x.burnt(16, 3, 39), 10);
    }

    private static void promise11Told() {
        DishRounds x = new DishRounds();
        due("11 unknown before outside", x.told(5, 9), -1);
        x.pass(9, 0);
        track(x, 5, 17, 0, 5, 1, 5);
        for (int bad : new int[] {-1, 5, MIN, MAX}) {
            due("11 what " + bad, x.told(5, bad), -2);
        }
        due("11 begin", x.told(5, 0), 17);
        due("11 points", x.told(5, 1), 2);
        due("11 place", x.told(5, 2), 1);
        due("11 dish", x.told(5, 3), -6);
        due("11 seen", x.told(5, 4), -6);
        x.take(3, 5);
        due("11 dish", x.told(5, 3), 3);
        due("11 seen", x.told(5, 4), 2);
        x.drop(9);
        due("11 place then", x.told(5, 2), 0);
        x.sun(0, 40, 5, 3);
        due("11 seen stays", x.told(5, 4), 2);
        track(x, 6, 0, 12, 0);
        x.take(1, 6);
        due("11 none seen", x.told(6, 4), 0);
    }

    private static void promise12Order() {
        DishRounds x = new DishRounds();
        for (int n = 0; n < 8; n++) {
            x.pass(90 - 10 * n, 60 - n);
        }
        due("12 how many", x.order(-1), 8);
        for (int n = 0; n < 8; n++) {
            due("12 order(" + n + ")", x.order(n), 90 - 10 * n);
        }
        for (int none : new int[] {-2, 8, MIN, MAX}) {
            due("12 order(" + none + ")", x.order(none), -6);
        }
        x.drop(90);
        x.pass(90, 0);
        due("12 last again", x.order(7), 90);
        due("12 first", x.order(0), 80);
    }

    private static void promise13Dish() {
        DishRounds x = new DishRounds();
        for (int bad : new int[] {-1, 4, MIN, MAX}) {
            due("13 dish " + bad, x.dish(bad, 9), -1);
        }
        for (int bad : new int[] {-1, 6, MIN, MAX}) {
            due("13 what " + bad, x.dish(0, bad), -2);
        }
        x.stand(0, -1, 2, 3);
        dishIs("13", x, 0, 23, 2, 3, 24, 1, 23);
        x.stand(0, 24, 2, 3);
        due("13 side", x.dish(0, 5), 0);
        x.set(0, 0, 36);
        x.stand(0, -25, 2, 3);
        due("13 side", x.dish(0, 5), 23);
        x.stand(0, 35, 2, 3);
        due("13 side", x.dish(0, 5), 11);
        due("13 wind", x.dish(0, 0), 71);
        track(x, 1, 60, 0, 5);
        for (int n = 0; n < 15; n++) {
            x.point(1, 0, 5);
        }
        x.take(1, 1);
        due("13 free", x.dish(1, 2), 76);
    }

    private static void promise14Way() {
        DishRounds x = new DishRounds();
        x.pass(1, 2);
        due("14 unknown dish", x.way(4, 1, 9), -1);
        due("14 unknown pass", x.way(0, 2, 9), -1);
        for (int bad : new int[] {-1, 6, MIN, MAX}) {
            due("14 outside before state", x.way(0, 1, bad), -2);
        }
        due("14 no points", x.way(0, 1, 0), -3);
        x.point(1, 1, 5);
        wayIs("14", x, 0, 1, 1, 2, 2, 2, 25, 5);
        x.point(1, 23, 5);
        wayIs("14 either one at two steps: that by the lesser wind", x, 0, 1, 1, 2, 3, 3, 23, 5);
        x.point(1, 23, 5);
        wayIs("14 both of the later ones", x, 0, 1, 2, 2, 3, 4, 23, 5);
        x.stand(1, 0, 6, 5);
        wayIs("14 none behind the last point", x, 1, 1, -6, -6, -6, -6, -6, -6);
        x.stand(1, 0, 6, 4);
        wayIs("14 at the last point", x, 1, 1, 0, 0, -6, -6, 24, 6);
        x.take(0, 1);
        due("14 taken", x.way(0, 1, 0), -3);
        due("14 outside before state", x.way(0, 1, 6), -2);
    }

    /** What a way may not do, and what is seen. */
    private static void term2Ways() {
        DishRounds x = new DishRounds();
        x.sun(0, 40, 4, 0);
        x.stand(0, 0, 4, 0);
        track(x, 1, 0, 0, 4);
        wayIs("14 burnt at free is allowed, but not seen", x, 0, 1, 0, 0, -6, -6, 24, 4);
        x.sun(0, 40, 3, 3);
        x.point(1, 0, 4);
        due("14 no way out of the sun", x.way(0, 1, 0), -6);
        due("18 no way", x.take(0, 1), -5);
        x.sun(0, 40, 3, -1);
        due("14 no sun", x.way(0, 1, 0), 2);
        x.storm(0, 0);
        due("14 storm at free is allowed, and seen", x.way(0, 1, 0), 2);
        x.storm(1, 1);
        due("14 not up in time", x.way(0, 1, 0), -6);
        x.stand(0, 0, 5, 0);
        due("14 up in time", x.way(0, 1, 0), 0);
        due("14 up in time", x.way(0, 1, 5), 6);

        DishRounds y = new DishRounds();
        y.key(6);
        track(y, 2, 12, 12, 6);
        wayIs("14 the lesser wind", y, 0, 2, 1, 12, 12, 12, 12, 6);
        due("15 the lesser wind", y.where(0, 2, 1, 0), 23);
        y.set(0, 0, 12);
        wayIs("14 at the limit", y, 0, 2, 1, 12, 12, 12, 0, 6);
        y.stand(0, 1, 6, 0);
        wayIs("14 the nearer one", y, 0, 2, 1, 11, 12, 12, 24, 6);
        y.stand(0, 12, 6, 0);
        y.point(2, 13, 6);
        wayIs("14 never beyond the limit", y, 0, 2, 1, 0, 12, 12, 24, 6);
        y.set(0, 0, 13);
        wayIs("14 a limit more", y, 0, 2, 2, 1, 12, 13, 26, 6);
        y.point(2, 15, 6);
        y.set(0, 0, 36);
        due("14 slow", y.way(0, 2, 0), 2);
        y.set(0, 1, 2);
        due("14 fast", y.way(0, 2, 0), 3);
        y.key(5);
        due("14 too high to follow", y.way(0, 2, 0), 0);
        due("14 too high to follow", y.way(0, 2, 2), -6);
    }

    /** The longest way, at both ends of the widest limit, in the last ticks. */
    private static void term2Corners() {
        DishRounds x = new DishRounds();
        x.key(6);
        for (int d = 0; d < 4; d++) {
            x.set(d, 0, 36);
            x.set(d, 1, 3);
        }
        x.pass(1, 60);
        x.pass(2, 60);
        for (int n = 0; n < 16; n++) {
            x.point(1, 12, 0);
            x.point(2, 12, 6);
        }
        x.stand(0, -36, 0, 0);
        x.stand(1, 36, 0, 0);
        x.stand(2, -36, 6, 0);
        x.stand(3, 36, 6, 0);
        wayIs("14 corner", x, 0, 1, 16, 0, 60, 75, 0, 0);
        wayIs("14 corner", x, 1, 1, 16, 0, 60, 75, 72, 0);
        wayIs("14 corner", x, 2, 1, 16, 6, 60, 75, 0, 0);
        wayIs("14 corner", x, 0, 2, 16, 6, 60, 75, 0, 6);
        wayIs("14 corner", x, 2, 2, 16, 0, 60, 75, 0, 6);
        wayIs("14 corner", x, 3, 2, 16, 0, 60, 75, 72, 6);
        due("15 corner", x.where(0, 1, 30, 0) * 10 + x.where(0, 1, 30, 1), 0);
        due("15 corner", x.where(1, 1, 75, 0) * 10 + x.where(1, 1, 75, 2), 721);
        due("15 behind the corner", x.where(1, 1, 76, 0), -6);
        due("17 corner", x.share(1, 0, 1, 0) * 100 + x.share(1, 0, 1, 1), 16);
        x.stand(1, 0, 0, 79);
        due("17 corner", x.share(1, 0, 1, 0) * 100 + x.share(1, 0, 1, 1), 1616);
        due("18 corner", x.take(0, 1), 16);
        dishIs("18 corner", x, 0, 0, 0, 76, 36, 3, 12);
    }

    private static void promise15Where() {
        DishRounds x = new DishRounds();
        x.pass(1, 2);
        due("15 unknown dish", x.where(4, 1, 99, 9), -1);
        due("15 unknown pass", x.where(0, 2, 99, 9), -1);
        for (int bad : new int[] {-1, 80, MIN, MAX}) {
            due("15 tick " + bad, x.where(0, 1, bad, 0), -2);
        }
        for (int bad : new int[] {-1, 3, MIN, MAX}) {
            due("15 what " + bad, x.where(0, 1, 0, bad), -2);
        }
        due("15 no points", x.where(0, 1, 0, 0), -3);
        x.point(1, 1, 5);
        x.point(1, 1, 5);
        int[][] at = {{24, 6, 0}, {24, 5, 0}, {25, 5, 1}, {25, 5, 1}, {-6, -6, -6}, {-6, -6, -6}};
        for (int t = 0; t < at.length; t++) {
            for (int what = 0; what < 3; what++) {
                due("15 where(0, 1, " + t + ", " + what + ")", x.where(0, 1, t, what), at[t][what]);
            }
        }
        due("15 far behind", x.where(0, 1, 79, 0), -6);
        x.stand(0, 1, 5, 3);
        due("15 before free", x.where(0, 1, 2, 0), -6);
        due("15 at free", x.where(0, 1, 3, 0), 25);
        due("15 seen at free", x.where(0, 1, 3, 2), 1);
        x.stand(0, 1, 5, 4);
        due("15 no way", x.where(0, 1, 4, 0), -6);
        x.take(1, 1);
        due("15 taken", x.where(0, 1, 4, 0), -3);
        due("15 outside before state", x.where(0, 1, 80, 0), -2);
    }

    private static void promise16Offer() {
        DishRounds x = new DishRounds();
        due("16 unknown before outside", x.offer(1, 9), -1);
        x.pass(1, 3);
        for (int bad : new int[] {-1, 2, MIN, MAX}) {
            due("16 what " + bad, x.offer(1, bad), -2);
        }
        due("16 no points", x.offer(1, 0), -3);
        x.point(1, 2, 5);
        x.point(1, 3, 5);
        due("16 the least dish", x.offer(1, 0), 0);
        due("16 seen", x.offer(1, 1), 2);
        x.stand(2, 2, 5, 0);
        due("16 fewest steps", x.offer(1, 0), 2);
        x.stand(3, 2, 5, 1);
        due("16 the least of like ones", x.offer(1, 0), 2);
        x.point(1, 5, 5);
        due("16 most seen is the same", x.offer(1, 0) * 10 + x.offer(1, 1), 22);
        x.set(1, 1, 2);
        due("16 most seen", x.offer(1, 0) * 10 + x.offer(1, 1), 13);
        for (int d = 0; d < 4; d++) {
            x.stand(d, 0, 6, 6);
        }
        due("16 none", x.offer(1, 0), -6);
        due("16 none", x.offer(1, 1), -6);
        x.stand(3, 0, 6, 5);
        due("16 none seen", x.offer(1, 0), 3);
        due("16 none seen", x.offer(1, 1), 0);
        x.take(3, 1);
        due("16 taken", x.offer(1, 0), -3);
        due("16 outside before state", x.offer(1, 2), -2);
    }

    private static void promise17Share() {
        DishRounds x = new DishRounds();
        x.pass(1, 0);
        due("17 unknown pass", x.share(2, 1, 1, 9), -1);
        due("17 unknown one", x.share(1, 4, 4, 9), -1);
        due("17 unknown other", x.share(1, 0, -1, 9), -1);
        due("17 both are one", x.share(1, 2, 2, 0), -2);
        for (int bad : new int[] {-1, 2, MIN, MAX}) {
            due("17 what " + bad, x.share(1, 0, 1, bad), -2);
        }
        due("17 no points", x.share(1, 0, 1, 0), -3);
        for (int n = 0; n < 3; n++) {
            x.point(1, 0, 4);
        }
        x.stand(0, 0, 4, 0);
        x.stand(1, 0, 4, 79);
        due("17 all by the first", x.share(1, 0, 1, 0) * 10 + x.share(1, 0, 1, 1), 33);
        due("17 all by the second, k = 0", x.share(1, 1, 0, 0) * 10 + x.share(1, 1, 0, 1), 3);
        x.storm(2, 2);
        due("17 the first one goes no further", x.way(0, 1, 0), 1);
        due("17 the first one goes no further", x.share(1, 0, 1, 0) * 10 + x.share(1, 0, 1, 1), 22);
        x.storm(1, 1);
        due("17 no way for the whole", x.way(0, 1, 0), -6);
        due("17 but for the first point", x.share(1, 0, 1, 0) * 10 + x.share(1, 0, 1, 1), 11);
        due("17 none at all", x.share(1, 1, 0, 0) * 10 + x.share(1, 1, 0, 1), 0);
        x.storm(1, 0);
        x.stand(1, 0, 4, 2);
        due("17 the least k of the best", x.share(1, 0, 1, 0) * 10 + x.share(1, 0, 1, 1), 23);
        x.stand(1, 0, 4, 1);
        due("17 the least k of the best", x.share(1, 0, 1, 0) * 10 + x.share(1, 0, 1, 1), 13);
        due("17 changes nothing", x.way(0, 1, 0), 3);
        track(x, 2, 10, 0, 4, 0, 4, 6, 4, 6, 4);
        x.stand(0, 0, 4, 0);
        x.stand(1, 0, 4, 0);
        due("17 two and two", x.share(2, 0, 1, 0) * 10 + x.share(2, 0, 1, 1), 24);
        x.take(0, 1);
        due("17 taken", x.share(1, 0, 1, 0), -3);
        due("17 outside before state", x.share(1, 1, 1, 0), -2);
    }

    private static void promise18Take() {
        DishRounds x = new DishRounds();
        x.pass(1, 3);
        due("18 unknown dish", x.take(4, 1), -1);
        due("18 unknown dish", x.take(-1, 1), -1);
        due("18 unknown pass", x.take(0, 2), -1);
        due("18 no points", x.take(0, 1), -3);
        x.point(1, 23, 5);
        x.point(1, 22, 5);
        x.point(1, 12, 5);
        x.point(1, 22, 5);
        due("18", x.take(2, 1), 3);
        dishIs("18", x, 2, 22, 5, 7, 24, 1, 22);
        due("18 dish", x.told(1, 3), 2);
        due("18 seen", x.told(1, 4), 3);
        due("18 looked", x.looked(22, 5), 2);
        due("18 looked", x.looked(23, 5), 1);
        due("18 not looked", x.looked(12, 5), 0);
        due("18 taken", x.take(2, 1), -3);
        due("18 taken", x.take(0, 1), -3);
        track(x, 2, 6, 22, 5);
        due("18 no way", x.take(2, 2), -5);
        due("18 no way changes nothing", x.told(2, 3), -6);
        due("18 one behind the other", x.point(2, 22, 5), 2);
        due("18 one behind the other", x.take(2, 2), 1);
        due("18 looked more", x.looked(22, 5), 3);
        due("18 free", x.dish(2, 2), 8);
        track(x, 3, 0, 12, 0);
        due("18 none seen", x.take(0, 3), 0);
        due("18 none seen", x.told(3, 3), 0);
        counts("18", x, 3, 3, 7, 4, 2, 5, 0, 3, 0, -6, -6, 0);
    }

    private static void promise19Round() {
        DishRounds x = new DishRounds();
        track(x, 10, 5, 0, 5);
        track(x, 20, 2, 1, 5);
        track(x, 30, 5, 0, 5);
        track(x, 40, 0, 12, 0);
        x.pass(50, 0);
        due("19", x.round(), 3);
        due("19 first by begin", x.told(20, 3), 0);
        due("19 then in the order of coming", x.told(10, 3), 0);
        due("19 as things are then", x.told(30, 3), 1);
        due("19 none seen", x.told(40, 3), -6);
        due("19 no points", x.told(50, 3), -6);
        due("19 looked", x.looked(0, 5) * 10 + x.looked(1, 5), 21);
        dishIs("19", x, 0, 24, 5, 6, 24, 1, 0);
        dishIs("19", x, 1, 24, 5, 6, 24, 1, 0);
        dishIs("19", x, 2, 24, 6, 0, 24, 1, 0);
        due("19 nothing more", x.round(), 0);
        due("19 changed", x.key(5), 5);
        x.point(50, 0, 5);
        due("19 not in time", x.round(), 0);
        x.point(50, 0, 5);
        due("19 in time", x.round(), 1);
        due("19 in time", x.told(50, 3), 2);
        DishRounds y = new DishRounds();
        for (int n = 0; n < 8; n++) {
            track(y, n, 15 - 2 * n, 0, 5);
        }
        due("19 all eight", y.round(), 8);
        due("19 all eight", y.count(1) * 100 + y.looked(0, 5) * 10 + y.told(7, 3), 880);
    }

    private static void promise20Looked() {
        DishRounds x = new DishRounds();
        for (int bad : new int[] {-1, 24, MIN, MAX}) {
            due("20 side " + bad, x.looked(bad, 0), -2);
        }
        for (int bad : new int[] {-1, 7, MIN, MAX}) {
            due("20 height " + bad, x.looked(0, bad), -2);
        }
        x.key(6);
        x.stand(0, -1, 6, 0);
        track(x, 1, 0, 23, 6, 23, 6, 23, 6);
        x.take(0, 1);
        due("20", x.looked(23, 6), 3);
        due("20", x.looked(23, 5), 0);
        due("20", x.looked(22, 6), 0);
        x.stand(1, 0, 0, 0);
        track(x, 2, 0, 0, 0);
        x.take(1, 2);
        due("20", x.looked(0, 0), 1);
    }

    private static void promise21Count() {
        DishRounds x = new DishRounds();
        for (int bad : new int[] {-1, 12, MIN, MAX}) {
            due("21 what " + bad, x.count(bad), -2);
        }
        track(x, 1, 1, 0, 5, 0, 5);
        track(x, 2, 1, 0, 5, 1, 5, 9, 0);
        x.take(0, 1);
        x.take(1, 2);
        track(x, 3, 1, 0, 5);
        x.key(2);
        x.sun(7, 3, 4, 2);
        x.storm(3, 44);
        x.image(1);
        counts("21", x, 3, 2, 6, 4, 2, 2, 7, 4, 3, 3, 44, 2);
        x.image(0);
        due("21 images", x.count(11), 3);
        x.drop(2);
        counts("21 dropped", x, 2, 1, 3, 4, 2, 2, 7, 4, 3, 3, 44, 3);
    }

    private static void promises22And23Images() {
        DishRounds x = new DishRounds();
        for (int bad : new int[] {-1, 2, MIN, MAX}) {
            due("22 image(" + bad + ")", x.image(bad), -2);
            due("23 restore(" + bad + ")", x.restore(bad), -2);
        }
        due("22 new", x.image(1), 1);
        due("23 the other one", x.restore(0), -3);
        track(x, 1, 1, 0, 5, 1, 5);
        track(x, 2, 4, 2, 5);
        x.take(0, 1);
        x.set(3, 0, 30);
        x.set(3, 1, 3);
        x.stand(3, -30, 1, 9);
        x.sun(3, 4, 5, 1);
        x.storm(8, 9);
        x.key(4);
        due("22", x.image(0), 1);
        due("23 as new", x.restore(1), 1);
        counts("23 as new", x, 0, 0, 0, 0, 0, 5, 0, 3, 0, -6, -6, 3);
        dishIs("23 as new", x, 0, 24, 6, 0, 24, 1, 0);
        dishIs("23 as new", x, 3, 24, 6, 0, 24, 1, 0);
        due("23 as new", x.looked(0, 5), 0);
        due("23 as new", x.told(1, 0), -1);
        x.pass(7, 0);
        due("23 as kept", x.restore(0), 1);
        counts("23 as kept", x, 2, 1, 3, 2, 2, 4, 3, 5, 2, 8, 9, 3);
        dishIs("23 as kept", x, 0, 25, 5, 3, 24, 1, 1);
        dishIs("23 as kept", x, 3, 0, 1, 9, 30, 3, 18);
        due("23 as kept", x.told(1, 4) * 100 + x.told(2, 0) * 10 + x.order(1), 242);
        due("23 as kept", x.looked(0, 5) + x.looked(1, 5), 2);
        due("23 burnt", x.burnt(2, 6, 3), 1);
        x.drop(1);
        x.point(2, 3, 5);
        x.key(6);
        due("23 the image stays", x.restore(0), 1);
        due("23 the image stays", x.told(2, 1) * 10 + x.count(0), 12);
        due("23 the image stays", x.count(5), 4);
        x.drop(2);
        due("22 in place of what was kept", x.image(0), 1);
        x.drop(1);
        due("23 in place", x.restore(0), 1);
        due("23 in place", x.count(0), 1);
        due("23 which are kept", x.count(11), 3);
        due("23 the other stays", x.restore(1) * 10 + x.count(0), 10);
    }

    /** A way that was asked for before a change is told as things are then. */
    private static void asThingsAreThen() {
        DishRounds x = new DishRounds();
        x.image(1);
        track(x, 1, 1, 0, 5, 0, 5);
        due("then: at first", x.way(0, 1, 0), 2);
        x.image(0);
        x.key(4);
        due("then: key", x.way(0, 1, 0), 0);
        x.restore(0);
        due("then: restore", x.way(0, 1, 0), 2);
        x.storm(2, 2);
        due("then: storm", x.way(0, 1, 0), 1);
        x.storm(2, 1);
        x.sun(0, 2, 5, 0);
        due("then: sun", x.way(0, 1, 0), 1);
        x.sun(0, 2, 5, -1);
        x.stand(0, 0, 6, 1);
        due("then: stand", x.way(0, 1, 0), 1);
        x.stand(0, 0, 6, 0);
        x.point(1, 2, 5);
        due("then: point", x.way(0, 1, 4), 24);
        x.set(0, 1, 2);
        due("then: speed", x.way(0, 1, 4), 26);
        x.set(0, 0, 12);
        due("then: limit", x.way(0, 1, 4), 14);
        x.drop(1);
        track(x, 1, 1, 0, 4);
        due("then: another of its name", x.way(0, 1, 0), 0);
        track(x, 2, 0, 0, 6);
        x.take(0, 2);
        due("then: taken", x.way(0, 1, 1), 0);
        x.key(6);
        track(x, 3, 0, 0, 6, 0, 6);
        due("then: seen at the first tick", x.where(1, 3, 0, 2) * 10 + x.where(1, 3, 1, 2), 11);
        x.key(5);
        due("then: not seen", x.where(1, 3, 0, 2) * 10 + x.where(1, 3, 1, 2), 0);
    }

    public static void main(String[] args) {
        promise1New();
        promise2Pass();
        promise3Point();
        promise4Drop();
        promise5Stand();
        promise6Set();
        promise7Sun();
        promise8Storm();
        promise9Key();
        promise10Burnt();
        promise11Told();
        promise12Order();
        promise13Dish();
        promise14Way();
        term2Ways();
        term2Corners();
        promise15Where();
        promise16Offer();
        promise17Share();
        promise18Take();
        promise19Round();
        promise20Looked();
        promise21Count();
        promises22And23Images();
        asThingsAreThen();
        System.out.println(wrong == 0 ? "all promises are kept" : wrong + " answers are not as due");
        if (wrong != 0) {
            System.exit(1);
        }
    }
}
