import java.nio.file.Files;
import java.nio.file.Path;
import java.util.regex.Matcher;
import java.util.regex.Pattern;

/** Rules of LANGUAGE.md that the text of the program tells: words, library, short methods, loops with an end. */
public final class LanguageTest {
    private static final String[] NOT_THERE = {"\\bthrows?\\b", "\\btry\\b", "\\bcatch\\b", "\\bfinally\\b", "\\bsynchronized\\b", "\\bassert\\b",
        "\\bimport\\b", "\\bpackage\\b", "->", "::", "\\bnull\\b", "\\bvar\\b", "Exact\\b", "\\bhashCode\\b", "\\btoString\\b", "\\bThread\\b",
        "\\bObject\\b", "while \\(true\\)", "for \\(;;\\)", "\\bstatic \\{", "\\bnew \\w+\\[[^\\]]*\\]\\[", "@", "\\bString\\[", "\\bInteger\\b",
        "\"\\s*\\+", "\\+\\s*\"", "\\bprotected\\b", "\\binstanceof\\b", "\\bgoto\\b", "\\bdouble\\b", "\\bfloat\\b"};
    private static final String LIBRARY = "Math.max Math.min Math.abs System.arraycopy";

    public static void main(String[] args) throws Exception {
        Checks c = new Checks();
        String path = System.getenv("SLICED_BILLS_SOURCE");
        String text = Files.readString(Path.of(path == null ? "src/main/java/SlicedBills.java" : path));
        c.due("signs are 1 to 126", text.chars().filter(s -> s < 10 || s > 126).count(), 0);
        String code = text.replaceAll("(?s)/\\*.*?\\*/", "").replaceAll("(?m)//.*$", "");
        for (String no : NOT_THERE) {
            Matcher m = Pattern.compile(no).matcher(code);
            c.due(no + " stands in the program", m.find(), false);
        }
        Matcher library = Pattern.compile("\\b(Math|System|Arrays|Long|Character|StringBuilder)\\b(\\.\\w+)?").matcher(code);
        while (library.find()) c.due(library.group() + " is of the library", (" " + LIBRARY + " ").contains(" " + library.group() + " "), true);
        methods(c, code);
        c.end();
    }

    /** No method has more than sixty lines. */
    private static void methods(Checks c, String code) {
        String[] lines = code.split("\n");
        for (int i = 0; i < lines.length; i++) {
            Matcher m = Pattern.compile("^(    |        )[\\w\\[\\]]+( [\\w\\[\\]]+)*[ (].*\\) \\{$").matcher(lines[i]);
            if (!m.find()) continue;
            String end = m.group(1) + "}";
            int k = i;
            while (k < lines.length && !lines[k].equals(end)) k++;
            c.due(lines[i].trim() + " has sixty lines at most", k - i <= 60, true);
        }
    }
}
