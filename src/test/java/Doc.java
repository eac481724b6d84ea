import java.io.IOException;
import java.nio.file.Files;
import java.nio.file.Path;
import java.util.LinkedHashMap;
import java.util.Map;
import java.util.regex.Matcher;
import java.util.regex.Pattern;

/** The document by parts, and which of its words a test has quoted, so that no sentence is left without one. */
final class Doc {
    private static final Path PLACE = Path.of("../shared/DOC.md");
    private final Map<String, String> parts = new LinkedHashMap<>();
    private final Map<String, boolean[]> quoted = new LinkedHashMap<>();

    /** Without the document all is quoted well: the rows are then looked at alone. */
    Doc() throws IOException {
        if (!Files.isReadable(PLACE)) {
            System.out.println(PLACE + " is not there: quotes are not looked up");
            return;
        }
        String text = Files.readString(PLACE);
        keep("What it is", between(text, "## What it is", "## The public face"));
        String terms = between(text, "## Terms", "## Promise 1:");
        keep("Terms", between(terms, "", "======== 1"));
        keep("Terms 1", between(terms, "======== 1", "======== 2"));
        keep("Terms 2", between(terms, "======== 2", "======== 3"));
        keep("Terms 3", between(terms, "======== 3", "The constants:"));
        keep("Constants", between(terms, "The constants:", "Ahead of the calls"));
        Matcher headings = Pattern.compile("## Promise (\\d+):[^\n]*").matcher(text);
        while (headings.find()) {
            keep("Promise " + headings.group(1), between(text.substring(headings.end()), "", "\n## "));
        }
    }

    private static String between(String text, String from, String till) {
        int start = text.indexOf(from) + from.length();
        int end = text.indexOf(till, start);
        return text.substring(start, end < 0 ? text.length() : end);
    }

    /** Without what stands between backticks, which is the face, and with one blank between words. */
    private void keep(String part, String text) {
        String words = plain(text.replace("```text", " ").replace("```", " ").replaceAll("`[^`]*`:?", " "));
        parts.put(part, words);
        quoted.put(part, new boolean[words.length()]);
    }

    private static String plain(String text) {
        return text.replaceAll("\\s+", " ").trim();
    }

    boolean quote(String part, String words) {
        if (parts.isEmpty()) {
            return true;
        }
        String text = parts.getOrDefault(part, "");
        String wanted = plain(words);
        int at = text.indexOf(wanted);
        for (int i = at; at >= 0 && i < at + wanted.length(); i++) {
            quoted.get(part)[i] = true;
        }
        return at >= 0;
    }

    /** For each part what no test has quoted; parts that are quoted whole are not in it. */
    Map<String, String> untold() {
        Map<String, String> all = new LinkedHashMap<>();
        for (String part : parts.keySet()) {
            StringBuilder rest = new StringBuilder();
            for (int i = 0; i < parts.get(part).length(); i++) {
                rest.append(quoted.get(part)[i] ? ' ' : parts.get(part).charAt(i));
            }
            if (!rest.toString().isBlank()) {
                all.put(part, plain(rest.toString()));
            }
        }
        return all;
    }
}
