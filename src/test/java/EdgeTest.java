import java.util.Arrays;
import java.util.List;

/**
 * Each call with all tuples of numbers at the edges of what the document allows, just beyond them, and far beyond, on
 * objects in three states; the answers, and what is told behind them, are compared with those of the model.
 */
public final class EdgeTest {
    private static final int MIN = Integer.MIN_VALUE;
    private static final int MAX = Integer.MAX_VALUE;
    /** Taken, open, without points, open and full in SOME; gone or never there the others. */
    private static final int[] NAMES = {MIN, -6, -1, 0, 1, 2, 3, 4, 99, 100, MAX};
    private static final int[] BEGINS = edges(0, 60);
    private static final int[] SIDES = edges(0, 23);
    private static final int[] HEIGHTS = edges(0, 6);
    private static final int[] DISHES = {MIN, -1, 0, 1, 3, 4, MAX};
    private static final int[] TICKS = edges(0, 79);
    private static final int[] WAY_TICKS = {MIN, -1, 0, 2, 3, 4, 9, 10, 79, 80, MAX};
    private static final int[] WINDS = {MIN, -37, -36, -25, -24, -13, -12, 0, 12, 13, 24, 25, 36, 37, MAX};
    private static final int[] SETTINGS = {MIN, -12, -1, 0, 1, 3, 4, 11, 12, 14, 15, 36, 37, MAX};
    private static final int[] EVERYS = {MIN, -1, 0, 1, 40, 41, MAX};
    private static final int[] CONES = edges(-1, 3);
    private static final int[] IMAGES = edges(0, 1);

    private static final String NEW = "";
    private static final String SOME = """
        pass 1 2; point 1 0 5; point 1 1 5
        take 0 1
        pass 2 3; point 2 23 5; point 2 0 5; point 2 0 4
        pass 3 7
        pass 0 5; drop 0
        stand 1 -15 4 2
        set 3 0 36; set 3 1 3; stand 3 36 0 9
        sun 12 7 3 1; storm 40 41
        image 1
        """;
    private static final String FULL = SOME + """
        pass 4 4
        point 4 0 4; point 4 0 4; point 4 0 4; point 4 0 4; point 4 0 4; point 4 0 4; point 4 0 4; point 4 0 4
        point 4 0 4; point 4 0 4; point 4 0 4; point 4 0 4; point 4 0 4; point 4 0 4; point 4 0 4; point 4 0 4
        pass 5 0; pass 6 0; pass 7 0; pass 8 0
        set 0 0 12
        storm 3 1
        """;
    private static final String STATE = "count 0..11; order -2..9; dish 0..3 0..5; told 0..8 0..4; looked 0..2 4..5";

    private static int tuples = 0;

    private EdgeTest() {
    }

    private static int[] edges(int least, int most) {
        return new int[] {MIN, least - 1, least, most, most + 1, MAX};
    }

    /** The model behind the same calls as the class, without working them out anew. */
    private static Model copyOf(Model m) {
        Model copy = new Model();
        copy.become(m);
        copy.images = m.images.clone();
        return copy;
    }

    private static Model modelBehind(String scene) {
        Model m = new Model();
        for (String row : scene.split("[;\n]")) {
            if (!row.isBlank()) {
                answer(m, row.trim());
            }
        }
        return m;
    }

    private static int answer(Model m, String row) {
        String[] words = row.split("\\s+");
        int[] numbers = new int[words.length - 1];
        for (int i = 0; i < numbers.length; i++) {
            numbers[i] = Rows.number(words[i + 1]);
        }
        return m.answer(words[0], numbers);
    }

    private static void callAll(String scene, Model behind, String call, int[]... edges) {
        tuplesFrom(scene, behind, call, new int[edges.length], 0, edges);
    }

    private static void tuplesFrom(String scene, Model behind, String call, int[] numbers, int at, int[][] edges) {
        if (at == edges.length) {
            callOne(scene, behind, call, numbers);
            return;
        }
        for (int n : edges[at]) {
            numbers[at] = n;
            tuplesFrom(scene, behind, call, numbers, at + 1, edges);
        }
    }

    private static void callOne(String scene, Model behind, String call, int[] numbers) {
        tuples++;
        DishRounds x = new DishRounds();
        Rows.answers(x, scene);
        Model m = copyOf(behind);
        Integer got = Rows.ask(x, call, numbers);
        int due = m.answer(call, numbers);
        if (got == null || got != due) {
            Rows.fault(call + Arrays.toString(numbers) + " answered " + got + ", due is " + due);
        }
        List<Integer> told = Rows.answers(x, STATE);
        List<Integer> toldByModel = Rows.answers((name, a) -> m.answer(name, a), STATE);
        if (!told.equals(toldByModel)) {
            Rows.fault(call + Arrays.toString(numbers) + " answered " + got + ", but is not as due what is told then");
        }
    }

    private static void callsBehind(String scene) {
        Model m = modelBehind(scene);
        callAll(scene, m, "pass", NAMES, BEGINS);
        callAll(scene, m, "point", NAMES, SIDES, HEIGHTS);
        callAll(scene, m, "drop", NAMES);
        callAll(scene, m, "stand", DISHES, WINDS, HEIGHTS, TICKS);
        callAll(scene, m, "set", DISHES, edges(0, 1), SETTINGS);
        callAll(scene, m, "sun", SIDES, EVERYS, HEIGHTS, CONES);
        callAll(scene, m, "storm", TICKS, TICKS);
        callAll(scene, m, "key", HEIGHTS);
        callAll(scene, m, "burnt", SIDES, HEIGHTS, TICKS);
        callAll(scene, m, "told", NAMES, edges(0, 4));
        callAll(scene, m, "order", edges(-1, 8));
        callAll(scene, m, "dish", DISHES, edges(0, 5));
        callAll(scene, m, "way", DISHES, NAMES, edges(0, 5));
        callAll(scene, m, "where", DISHES, NAMES, WAY_TICKS, edges(0, 2));
        callAll(scene, m, "offer", NAMES, edges(0, 1));
        callAll(scene, m, "share", NAMES, DISHES, DISHES, edges(0, 1));
        callAll(scene, m, "take", DISHES, NAMES);
        callAll(scene, m, "round");
        callAll(scene, m, "looked", SIDES, HEIGHTS);
        callAll(scene, m, "count", edges(0, 11));
        callAll(scene, m, "image", IMAGES);
        callAll(scene, m, "restore", IMAGES);
    }

    public static void main(String[] args) {
        callsBehind(NEW);
        callsBehind(SOME);
        callsBehind(FULL);
        System.out.println(tuples + " tuples: " + (Rows.wrong == 0 ? "all answers are as due" : Rows.wrong + " faults"));
        if (Rows.wrong != 0) {
            System.exit(1);
        }
    }
}
