import java.io.IOException;
import java.lang.reflect.Constructor;
import java.lang.reflect.Field;
import java.lang.reflect.Method;
import java.lang.reflect.Modifier;
import java.nio.file.Files;
import java.nio.file.Path;
import java.util.Set;
import java.util.TreeSet;
import java.util.regex.Matcher;
import java.util.regex.Pattern;

/** The class has the document's face and nothing beside it, and keeps those rules of LANGUAGE.md that are easily looked up. */
public final class FaceTest {
    private static final Set<String> FACE = Set.of(
        "pass 2", "point 3", "drop 1", "stand 4", "set 3", "sun 4", "storm 2", "key 1", "burnt 3",
        "told 2", "order 1", "dish 2", "way 3", "where 4", "offer 2", "share 4",
        "take 2", "round 0", "looked 2", "count 1", "image 1", "restore 1");
    private static final Set<String> CONSTANTS = Set.of("UNKNOWN=-1", "OUTSIDE=-2", "STATE=-3", "FULL=-4", "NO=-5", "NONE=-6");
    private static int wrong = 0;

    private static void check(boolean holds, String what) {
        if (!holds) {
            wrong++;
            System.out.println("does not hold: " + what);
        }
    }

    /** What this test holds the class to is what the document shows under 'The public face'. */
    private static void checkDocument() throws IOException {
        Path place = Path.of("../shared/DOC.md");
        if (!Files.isReadable(place)) {
            System.out.println(place + " is not there: the face is not looked up");
            return;
        }
        String face = Files.readString(place).split("```java")[1].split("```")[0];
        Set<String> calls = new TreeSet<>();
        Matcher call = Pattern.compile("public int (\\w+)\\(([^)]*)\\);").matcher(face);
        while (call.find()) {
            calls.add(call.group(1) + " " + (call.group(2).isBlank() ? 0 : call.group(2).split(",").length));
        }
        check(calls.equals(FACE), "the document's calls are those that are looked for: " + calls);
        Set<String> constants = new TreeSet<>();
        Matcher constant = Pattern.compile("([A-Z]+) = (-?\\d+)").matcher(face);
        while (constant.find()) {
            constants.add(constant.group(1) + "=" + constant.group(2));
        }
        check(constants.equals(CONSTANTS), "the document's constants are those that are looked for: " + constants);
    }

    private static void checkMethods() {
        Set<String> open = new TreeSet<>();
        Set<String> openNames = new TreeSet<>();
        for (Method m : DishRounds.class.getDeclaredMethods()) {
            if (Modifier.isPublic(m.getModifiers())) {
                open.add(m.getName() + " " + m.getParameterCount());
                openNames.add(m.getName());
                check(m.getReturnType() == int.class, m + " answers an int");
                for (Class<?> p : m.getParameterTypes()) {
                    check(p == int.class, m + " takes ints");
                }
            }
        }
        check(open.equals(FACE), "the public methods are those of the document: " + open);
        for (Method m : DishRounds.class.getDeclaredMethods()) {
            boolean isFace = Modifier.isPublic(m.getModifiers());
            check(isFace || Modifier.isPrivate(m.getModifiers()), m + " is public or private");
            check(isFace || !openNames.contains(m.getName()), m + " bears no public name");
        }
        for (Class<?> c : DishRounds.class.getDeclaredClasses()) {
            for (Method m : c.getDeclaredMethods()) {
                check(!openNames.contains(m.getName()), m + " bears no public name");
                check(m.getParameterCount() <= 7, m + " takes at most seven");
            }
        }
    }

    private static void checkFields() throws IllegalAccessException {
        Set<String> open = new TreeSet<>();
        int own = 0;
        for (Field f : DishRounds.class.getDeclaredFields()) {
            int mods = f.getModifiers();
            if (Modifier.isPublic(mods)) {
                check(Modifier.isStatic(mods) && Modifier.isFinal(mods) && f.getType() == int.class, f + " is a constant");
                open.add(f.getName() + "=" + f.getInt(null));
            } else {
                check(Modifier.isPrivate(mods), f + " is private");
                check(!Modifier.isStatic(mods) || Modifier.isFinal(mods), f + " is final if static");
            }
            own += Modifier.isStatic(mods) ? 0 : 1;
        }
        check(open.equals(CONSTANTS), "the public constants are those of the document: " + open);
        check(own <= 20, "some twenty fields");
    }

    private static void checkClasses() {
        int mods = DishRounds.class.getModifiers();
        check(Modifier.isPublic(mods) && Modifier.isFinal(mods), "the class is public and final");
        check(DishRounds.class.getPackageName().isEmpty(), "the class has no package");
        Constructor<?>[] makers = DishRounds.class.getDeclaredConstructors();
        check(makers.length == 1 && Modifier.isPublic(makers[0].getModifiers()) && makers[0].getParameterCount() == 0,
            "one public constructor without parameters");
        Class<?>[] inside = DishRounds.class.getDeclaredClasses();
        check(inside.length < 12, "at most some twelve classes");
        for (Class<?> c : inside) {
            check(Modifier.isStatic(c.getModifiers()) && !Modifier.isPublic(c.getModifiers()), c + " is static and not public");
            check(c.getDeclaredFields().length <= 20, c + " has some twenty fields");
        }
    }

    private static void checkSource() throws IOException {
        String text = Files.readString(Path.of("src/main/java/DishRounds.java"));
        String code = Pattern.compile("/\\*.*?\\*/|//[^\n]*", Pattern.DOTALL).matcher(text).replaceAll("");
        for (String word : new String[] {"throw", "throws", "try", "catch", "synchronized", "assert", "package", "static\\s*\\{"}) {
            check(!Pattern.compile("\\b" + word).matcher(code).find(), "no " + word);
        }
        for (String sign : new String[] {"->", "::", "Exact(", "equals(", "hashCode", "\""}) {
            check(!code.contains(sign), "no " + sign);
        }
        check(code.indexOf("import") == code.lastIndexOf("import"), "one import, that of Arrays");
        check(text.chars().allMatch(c -> c == 10 || c >= 32 && c < 127), "plain signs");
    }

    public static void main(String[] args) throws IllegalAccessException, IOException {
        checkDocument();
        checkSource();
        checkClasses();
        checkMethods();
        checkFields();
        System.out.println(wrong == 0 ? "the face is as due" : wrong + " faults");
        if (wrong != 0) {
            System.exit(1);
        }
    }
}
