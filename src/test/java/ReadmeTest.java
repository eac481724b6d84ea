import java.io.IOException;
import java.lang.reflect.Method;
import java.lang.reflect.Modifier;
import java.nio.file.Files;
import java.nio.file.Path;
import java.util.ArrayList;
import java.util.Comparator;
import java.util.List;
import java.util.Set;
import java.util.TreeSet;
import java.util.concurrent.TimeUnit;
import java.util.regex.Matcher;
import java.util.regex.Pattern;
import java.util.stream.Stream;

/** README.md holds: its calls answer what stands behind them, all calls and tests are named, its commands work. */
public final class ReadmeTest {
    private static final Path ROOT = Path.of("").toAbsolutePath();
    private static final Path SHARED = ROOT.resolveSibling("shared");
    /** It runs this test, too: from here it would never end. */
    private static final String WHOLE_RUN = ".ci/run";
    private static int wrong = 0;

    private static void check(boolean holds, String what) {
        if (!holds) {
            wrong++;
            System.out.println("does not hold: " + what);
        }
    }

    private static String between(String text, String from, String till) {
        int start = text.indexOf(from);
        int end = start < 0 ? -1 : text.indexOf(till, start + from.length());
        check(end >= 0, "there are words between " + from.trim() + " and " + till.trim());
        return end < 0 ? "" : text.substring(start + from.length(), end);
    }

    private static int[] numbers(String list) {
        return Stream.of(list.split(",")).map(String::trim).filter(n -> !n.isEmpty()).mapToInt(Integer::parseInt).toArray();
    }

    private static int checkExample(String readme) {
        DishRounds x = new DishRounds();
        Pattern row = Pattern.compile("x\\.(\\w+)\\(([-\\d, ]*)\\); +// (-?\\d+)\\b.*");
        int calls = 0;
        for (String line : between(readme, "```java\n", "```").split("\n")) {
            Matcher parts = row.matcher(line);
            boolean isCall = parts.matches();
            check(isCall || line.equals("DishRounds x = new DishRounds();"), "a call and its answer: " + line);
            if (isCall) {
                calls++;
                Integer got = Rows.ask(x, parts.group(1), numbers(parts.group(2)));
                check(got != null && got == Integer.parseInt(parts.group(3)), line + " (answered " + got + ")");
            }
        }
        check(calls > 0, "there are calls");
        return calls;
    }

    /** The table has a row for each public method, with as many names in brackets as it takes numbers. */
    private static void checkTable(String readme) {
        Set<String> face = new TreeSet<>();
        for (Method m : DishRounds.class.getDeclaredMethods()) {
            if (Modifier.isPublic(m.getModifiers())) {
                face.add(m.getName() + " " + m.getParameterCount());
            }
        }
        Set<String> rows = new TreeSet<>();
        Matcher row = Pattern.compile("(?m)^\\| `(\\w+)\\(([\\w, ]*)\\)` \\|").matcher(readme);
        while (row.find()) {
            int many = row.group(2).isEmpty() ? 0 : row.group(2).split(",").length;
            check(rows.add(row.group(1) + " " + many), row.group(1) + " has one row");
        }
        check(rows.equals(face), "the table tells all calls: " + rows);
    }

    private static void checkTests(String readme) throws IOException {
        Set<String> there = new TreeSet<>();
        try (Stream<Path> files = Files.list(Path.of("src/test/java"))) {
            files.map(f -> f.getFileName().toString()).filter(n -> n.endsWith("Test.java"))
                .forEach(n -> there.add(n.replace(".java", "")));
        }
        Set<String> named = new TreeSet<>();
        Matcher row = Pattern.compile("(?m)^- `(\\w+)`:").matcher(readme);
        while (row.find()) {
            named.add(row.group(1));
        }
        check(named.equals(there), "the tests that are named are those that are there: " + named + ", " + there);
    }

    private static List<String> commands(String readme) {
        List<String> all = new ArrayList<>();
        for (String line : readme.substring(Math.max(0, readme.indexOf("## How to run its tests"))).split("\n")) {
            if (line.startsWith("    ")) {
                all.add(line.trim());
            }
        }
        return all;
    }

    private static void copy(Path from, Path to) throws IOException {
        try (Stream<Path> files = Files.walk(from)) {
            for (Path file : files.toList()) {
                Path place = to.resolve(from.relativize(file).toString());
                Files.createDirectories(place.getParent());
                Files.copy(file, place);
            }
        }
    }

    private static void remove(Path top) throws IOException {
        try (Stream<Path> files = Files.walk(top)) {
            for (Path file : files.sorted(Comparator.reverseOrder()).toList()) {
                Files.delete(file);
            }
        }
    }

    private static void runIn(Path place, String command) throws IOException, InterruptedException {
        Path said = place.resolve("said.txt");
        Process process = new ProcessBuilder("sh", "-c", command).directory(place.toFile())
            .redirectErrorStream(true).redirectOutput(said.toFile()).start();
        boolean ended = process.waitFor(5, TimeUnit.MINUTES);
        if (!ended) {
            process.destroyForcibly();
        }
        if (!ended || process.exitValue() != 0) {
            System.out.print(Files.readString(said));
            check(false, "works on a clean copy: " + command);
        }
    }

    /** The copy stands beside a link to ../shared, as the checkout does, and has nothing that was made before. */
    private static int checkCommands(String readme) throws IOException, InterruptedException {
        List<String> all = commands(readme);
        check(all.remove(WHOLE_RUN) && Files.isExecutable(Path.of(WHOLE_RUN)), WHOLE_RUN + " is named and can be run");
        Path top = Files.createTempDirectory("readme");
        Path place = top.resolve("main");
        copy(Path.of("src"), place.resolve("src"));
        Files.createSymbolicLink(top.resolve("shared"), SHARED);
        for (String command : all) {
            runIn(place, command);
        }
        remove(top);
        check(!all.isEmpty(), "there are commands for one test alone");
        return all.size();
    }

    public static void main(String[] args) throws IOException, InterruptedException {
        String readme = Files.readString(Path.of("README.md"));
        int calls = checkExample(readme);
        checkTable(readme);
        checkTests(readme);
        int commands = checkCommands(readme);
        System.out.println(calls + " calls, " + commands + " commands: "
            + (wrong == 0 ? "README.md holds" : wrong + " faults"));
        if (wrong != 0) {
            System.exit(1);
        }
    }
}
