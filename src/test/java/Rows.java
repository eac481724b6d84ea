import java.lang.reflect.InvocationTargetException;
import java.lang.reflect.Method;
import java.lang.reflect.Modifier;
import java.util.ArrayList;
import java.util.Arrays;
import java.util.HashMap;
import java.util.List;
import java.util.Map;
import java.util.function.IntFunction;

/**
 * Runs of calls that are written as rows, each run on an object of its own; rows end at a line's end or a semicolon.
 * "stand 0 -1 5 2 = 1" is a call and the answer that is due; without an answer any that is no refusal is. A number may
 * be MIN, MAX or a constant's name; "0..23" is each of these; "*" is 0, 1, .. for the answers told behind "=", one by
 * one; "x16" at a row's end is the call sixteen times. "track 7 3 2 5 3 5" is a pass, its begin, and its points.
 */
final class Rows {
    /** The document promises nothing behind these. */
    static final int MOST_CALLS = 512;
    private static final Map<String, Integer> NAMES = Map.of(
        "UNKNOWN", -1, "OUTSIDE", -2, "STATE", -3, "FULL", -4, "NO", -5, "NONE", -6,
        "MIN", Integer.MIN_VALUE, "MAX", Integer.MAX_VALUE);
    private static final Map<String, Method> CALLS = new HashMap<>();
    static int wrong = 0;

    static {
        for (Method m : DishRounds.class.getDeclaredMethods()) {
            if (Modifier.isPublic(m.getModifiers())) {
                CALLS.put(m.getName(), m);
            }
        }
    }

    private final String title;
    private final DishRounds x = new DishRounds();
    private int calls = 0;

    private Rows(String title) {
        this.title = title;
    }

    /** How many calls the run was. */
    static int run(String title, String rows) {
        Rows run = new Rows(title);
        for (String row : rows.split("[;\n]")) {
            if (!row.isBlank()) {
                run.row(row.trim());
            }
        }
        if (run.calls > MOST_CALLS) {
            fault(title + ": " + run.calls + " calls are more than an object is used for");
        }
        return run.calls;
    }

    static void fault(String text) {
        wrong++;
        System.out.println(text);
    }

    /** An answer, or null if the class threw. */
    static Integer ask(DishRounds x, String call, int... numbers) {
        Method m = CALLS.get(call);
        if (m == null || m.getParameterCount() != numbers.length) {
            throw new IllegalStateException("no such call: " + call + " of " + numbers.length);
        }
        Object[] boxed = new Object[numbers.length];
        for (int i = 0; i < numbers.length; i++) {
            boxed[i] = numbers[i];
        }
        try {
            return (Integer) m.invoke(x, boxed);
        } catch (InvocationTargetException e) {
            return null;
        } catch (IllegalAccessException e) {
            throw new IllegalStateException(e);
        }
    }

    /** The class, or a model of it. */
    interface Answerer {
        Integer answer(String call, int[] numbers);
    }

    /** The answers to rows without answers of their own, refusals among them, on an object that is there. */
    static List<Integer> answers(DishRounds x, String rows) {
        return answers((call, numbers) -> ask(x, call, numbers), rows);
    }

    static List<Integer> answers(Answerer x, String rows) {
        List<Integer> all = new ArrayList<>();
        for (String row : rows.split("[;\n]")) {
            if (!row.isBlank()) {
                String[] words = row.trim().split("\\s+");
                for (int[] numbers : eachOf(words, -1)) {
                    all.add(x.answer(words[0], numbers));
                }
            }
        }
        return all;
    }

    /** One row for each number, where a range will not do, as the answers differ. */
    static String each(int least, int most, IntFunction<String> row) {
        StringBuilder text = new StringBuilder();
        for (int i = least; i <= most; i++) {
            text.append(row.apply(i)).append('\n');
        }
        return text.toString();
    }

    static int number(String word) {
        Integer named = NAMES.get(word);
        return named != null ? named : Integer.parseInt(word);
    }

    private void row(String row) {
        String[] halves = row.split("=");
        String[] words = halves[0].trim().split("\\s+");
        if (words[0].equals("track")) {
            track(words);
            return;
        }
        int times = 1;
        if (words[words.length - 1].startsWith("x")) {
            times = Integer.parseInt(words[words.length - 1].substring(1));
            words = Arrays.copyOf(words, words.length - 1);
        }
        String[] due = halves.length > 1 ? halves[1].trim().split("\\s+") : new String[0];
        boolean isList = words[words.length - 1].equals("*");
        for (int n = 0; n < times; n++) {
            for (int i = 0; i < (isList ? due.length : 1); i++) {
                for (int[] numbers : eachOf(words, i)) {
                    check(words[0], numbers, due.length == 0 ? null : number(due[i]));
                }
            }
        }
    }

    private void track(String[] words) {
        int name = number(words[1]);
        check("pass", new int[] {name, number(words[2])}, null);
        for (int i = 3; i + 1 < words.length; i += 2) {
            check("point", new int[] {name, number(words[i]), number(words[i + 1])}, null);
        }
    }

    /** The numbers of a call, once for each number of the ranges among them. */
    private static List<int[]> eachOf(String[] words, int star) {
        List<int[]> all = new ArrayList<>();
        all.add(new int[0]);
        for (int i = 1; i < words.length; i++) {
            List<int[]> longer = new ArrayList<>();
            String[] ends = words[i].split("\\.\\.");
            int from = words[i].equals("*") ? star : number(ends[0]);
            int till = words[i].equals("*") ? star : number(ends[ends.length - 1]);
            for (int[] start : all) {
                for (int n = from; n <= till; n++) {
                    int[] more = Arrays.copyOf(start, start.length + 1);
                    more[start.length] = n;
                    longer.add(more);
                    if (n == Integer.MAX_VALUE) {
                        break;
                    }
                }
            }
            all = longer;
        }
        return all;
    }

    private void check(String call, int[] numbers, Integer due) {
        calls++;
        Integer got = ask(x, call, numbers);
        boolean isDue = got != null && (due == null ? got >= 0 : got.equals(due));
        if (!isDue) {
            fault(title + ": call " + calls + ", " + call + Arrays.toString(numbers) + " answered "
                + (got == null ? "nothing, it threw" : got) + ", due is " + (due == null ? "no refusal" : due));
        }
    }
}
