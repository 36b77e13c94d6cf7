import java.nio.file.Files;
import java.nio.file.Path;
import java.util.ArrayList;
import java.util.LinkedHashMap;
import java.util.List;
import java.util.Map;

/**
 * Each sentence that a Bounds test names stands in the document, under the promise or the term that it is said to,
 * and of each promise and each term every word is named by some test.
 */
public final class SentencesTest {
    public static void main(String[] args) throws Exception {
        String told = System.getenv("SLICED_BILLS_DOC");
        Path path = Path.of(told == null ? "../shared/DOC.md" : told);
        if (!Files.isRegularFile(path)) {
            System.out.println("no document at " + path + ": not compared");
            return;
        }
        Checks c = new Checks();
        Map<String, String> parts = parts(plain(Files.readString(path)));
        Map<String, List<String>> named = named();
        for (String where : named.keySet()) c.due(where + " is a part of the document", parts.containsKey(where), true);
        parts.forEach((where, text) -> compare(c, where, text, named.getOrDefault(where, List.of())));
        c.due("promises", parts.keySet().stream().filter(p -> p.startsWith("Promise")).count(), 45);
        c.end();
    }

    private static Map<String, List<String>> named() {
        Script s = Script.collecting();
        BoundsOfDaysTest.all(s);
        BoundsOfPlansTest.all(s);
        BoundsOfTextsTest.all(s);
        BoundsOfAccountsTest.all(s);
        BoundsOfMoneyTest.all(s);
        BoundsOfForecastsTest.all(s);
        BoundsOfKeepingTest.all(s);
        return s.told();
    }

    private static String plain(String text) { return text.replace("```text", " ").replace("`", " ").replaceAll("\\s+", " "); }

    private static String between(String text, String from, String to) {
        int start = text.indexOf(from);
        if (start < 0) throw new IllegalArgumentException("not in the document: " + from);
        int end = text.indexOf(to, start + from.length());
        return text.substring(start + from.length(), end < 0 ? text.length() : end);
    }

    private static Map<String, String> parts(String doc) {
        Map<String, String> parts = new LinkedHashMap<>();
        parts.put("Term 1", between(doc, "==== 1. ", "==== 2. "));
        parts.put("Term 2", between(doc, "==== 2. ", "All memory"));
        parts.put("Rules", "All memory" + between(doc, "All memory", "The constants"));
        parts.put("Constants", between(doc, "The constants: ", "## Promise 1:"));
        for (int i = 1; i <= 45; i++) {
            String text = between(doc, "## Promise " + i + ":", i == 45 ? "## Not promised" : "## Promise " + (i + 1) + ":");
            // Behind the heading and the signature.
            parts.put("Promise " + i, text.substring(text.indexOf(") :") + 2));
        }
        return parts;
    }

    private static void compare(Checks c, String where, String text, List<String> named) {
        boolean[] covered = new boolean[text.length()];
        for (String words : named) {
            String sought = plain(words);
            int at = text.indexOf(sought);
            c.due(where + " says \"" + words + "\"", at >= 0, true);
            for (; at >= 0; at = text.indexOf(sought, at + 1)) java.util.Arrays.fill(covered, at, at + sought.length(), true);
        }
        List<String> left = new ArrayList<>();
        StringBuilder word = new StringBuilder();
        for (int i = 0; i <= text.length(); i++) {
            if (i < text.length() && !covered[i]) { word.append(text.charAt(i)); continue; }
            if (word.toString().matches(".*[A-Za-z0-9].*")) left.add(word.toString().trim());
            word.setLength(0);
        }
        c.due(where + ": words that no test names, " + left, left.size(), 0);
    }
}
