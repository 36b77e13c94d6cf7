import java.io.ByteArrayOutputStream;
import java.io.PrintStream;
import java.lang.reflect.Method;
import java.lang.reflect.Modifier;
import java.net.URL;
import java.net.URLClassLoader;
import java.nio.file.Files;
import java.nio.file.Path;
import java.util.ArrayList;
import java.util.List;
import java.util.regex.Matcher;
import java.util.regex.Pattern;
import java.util.stream.Stream;
import javax.tools.JavaCompiler;
import javax.tools.ToolProvider;

/**
 * README.md shows of answers what the class answers: its first program is compiled and run, and so is each row of its
 * other examples that has an answer behind it. Each call of the face stands in a table, and in some example.
 */
public final class ReadmeTest {
    private static final Pattern BLOCK = Pattern.compile("(?s)```(java|text)\n(.*?)```");
    // A call and, behind "// ->", the answer that is due; what follows a : is said to the reader.
    private static final Pattern ROW = Pattern.compile("(\\w.*);\\s+// -> (-?\\d+|true|false|\"[^\"]*\")(:.*)?");
    private static final Pattern TABLE_CALL = Pattern.compile("(?m)^\\| `(\\w+)\\(([^)]*)\\)` \\|");

    private final Checks checks = new Checks();
    private final String readme;
    private final StringBuilder rows = new StringBuilder();
    private int rowsWithAnswer;
    private String example = "";
    private String printed = "";

    private ReadmeTest(String readme) { this.readme = readme; }

    public static void main(String[] args) throws Exception {
        String told = System.getenv("SLICED_BILLS_README");
        ReadmeTest test = new ReadmeTest(Files.readString(Path.of(told == null ? "README.md" : told)));
        test.blocks();
        test.calls();
        Path made = Files.createTempDirectory("readme");
        try {
            test.run(made);
        } finally {
            try (Stream<Path> files = Files.list(made)) {
                for (Path file : files.toList()) Files.delete(file);
            }
            Files.delete(made);
        }
        test.checks.end();
    }

    private void blocks() {
        Matcher m = BLOCK.matcher(readme);
        while (m.find()) {
            if (m.group(1).equals("text")) printed = m.group(2);
            else if (m.group(2).contains("public class Example")) example = m.group(2);
            else oneBlock(m.group(2));
        }
        checks.due("a first program stands in the README", !example.isEmpty(), true);
        checks.due("and what it prints", !printed.isEmpty(), true);
        checks.due("rows with an answer are 60 at least", rowsWithAnswer >= 60, true);
    }

    private void oneBlock(String block) {
        rows.append("        {\n");
        for (String line : block.split("\n")) {
            Matcher row = ROW.matcher(line.trim());
            boolean answers = row.matches();
            checks.due("\"" + line + "\" has an answer behind -> that can be read", answers, line.contains("->"));
            if (answers) {
                rowsWithAnswer++;
                rows.append("            due(").append(quoted(line.trim())).append(", ").append(row.group(1)).append(", ")
                    .append(row.group(2)).append(");\n");
            } else {
                rows.append("            ").append(line).append('\n');
            }
        }
        rows.append("        }\n");
    }

    private static String quoted(String text) { return "\"" + text.replace("\\", "\\\\").replace("\"", "\\\"") + "\""; }

    /** Each call of the face stands in a table with as many arguments as it has, nothing else does, and each in an example. */
    private void calls() {
        List<String> face = new ArrayList<>();
        for (Method m : SlicedBills.class.getDeclaredMethods()) {
            if (Modifier.isPublic(m.getModifiers())) face.add(m.getName() + " " + m.getParameterCount());
        }
        List<String> told = new ArrayList<>();
        Matcher m = TABLE_CALL.matcher(readme);
        while (m.find()) told.add(m.group(1) + " " + (m.group(2).isEmpty() ? 0 : m.group(2).split(", ").length));
        for (String call : face) {
            checks.due(call + " stands in a table of the README, once", told.stream().filter(call::equals).count(), 1);
            String shown = "\", x." + call.substring(0, call.indexOf(' ')) + "(";
            checks.due(call + " stands in an example, with its answer", rows.indexOf(shown) >= 0, true);
        }
        checks.due("calls in the tables", told.size(), face.size());
    }

    private String source() {
        return "import java.util.Objects;\npublic final class ReadmeRows extends Example {\n    static int wrong;\n"
            + "    static void due(String row, Object got, Object want) {\n"
            + "        if (!Objects.equals(got, want)) { wrong++; System.out.println(row + \" answered \" + got); }\n    }\n"
            + "    public static int all() {\n" + rows + "        return wrong;\n    }\n}\n";
    }

    private void run(Path made) throws Exception {
        Files.writeString(made.resolve("Example.java"), example);
        Files.writeString(made.resolve("ReadmeRows.java"), source());
        JavaCompiler compiler = ToolProvider.getSystemJavaCompiler();
        int failed = compiler == null ? 1 : compiler.run(null, null, null, "--release", "17", "-cp", System.getProperty("java.class.path"), "-d", made.toString(),
            made.resolve("Example.java").toString(), made.resolve("ReadmeRows.java").toString());
        checks.due("the README's examples compile, 0 if so", failed, 0);
        if (failed != 0) return;
        try (URLClassLoader loader = new URLClassLoader(new URL[] {made.toUri().toURL()}, ReadmeTest.class.getClassLoader())) {
            checks.due("the first program prints what the README says", output(loader.loadClass("Example")).equals(printed), true);
            int wrong = (Integer) loader.loadClass("ReadmeRows").getMethod("all").invoke(null);
            checks.due("rows of " + rowsWithAnswer + " that are not as the README says", wrong, 0);
        }
    }

    private static String output(Class<?> program) throws Exception {
        PrintStream out = System.out;
        ByteArrayOutputStream bytes = new ByteArrayOutputStream();
        System.setOut(new PrintStream(bytes, true));
        try {
            program.getMethod("main", String[].class).invoke(null, (Object) new String[0]);
        } finally {
            System.setOut(out);
        }
        return bytes.toString().replace("\r\n", "\n");
    }
}
