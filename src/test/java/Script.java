import java.lang.reflect.Method;
import java.nio.charset.StandardCharsets;
import java.util.ArrayList;
import java.util.HashMap;
import java.util.List;
import java.util.Map;
import java.util.Set;

/**
 * Tests told as text: under the sentence of the document that asks for it a run of calls on a new object.
 *
 * <p>Rows hold calls with a | between two: begin(0, 1, 31) -> 3100 is a call and the answer that is due;
 * 9 * days(400) -> 400 is done nine times; book "fee 1" puts a text on the tape and hands on its length, deeds,
 * tried (with an account behind the text) and feed likewise, check [28 204] bytes; line 3 "P0 .." asks for a
 * LINE byte by byte; fill 399 writes ENTRIES by accounts 4 and 5 till there are so many; new goes on with a new
 * object, other with a second one, and back.
 *
 * <p>Behind each call that is refused or only asks, all that can be asked must be as it was, and behind each call
 * the tape must be as the document tells. (That takes more than 512 calls; this program answers on behind them.)
 */
final class Script {
    private static final Map<String, Method> METHODS = new HashMap<>();
    private static final Set<String> WRITES = Set.of("begin", "change", "seats", "pause", "giveUp", "move", "deeds", "use", "days",
        "favour", "pay", "remind", "turn", "book", "undo");
    private static final Set<String> OF_CENTS = Set.of("change", "seats", "pause", "giveUp", "move", "favour");

    static {
        for (Method m : SlicedBills.class.getDeclaredMethods()) METHODS.put(m.getName(), m);
    }

    private final boolean runs;
    private final Map<String, List<String>> told = new HashMap<>();
    private int tests;
    private int asked;
    private int wrong;
    private String sentence = "";
    private SlicedBills x;
    private SlicedBills before;

    private Script(boolean runs) { this.runs = runs; }

    static Script running() { return new Script(true); }

    /** One that only collects which sentences are tested. */
    static Script collecting() { return new Script(false); }

    Map<String, List<String>> told() { return told; }

    /** Where is "Promise 4", "Term 2" or "Rules"; words are the document's own. */
    void test(String where, String words, String rows) {
        told.computeIfAbsent(where, k -> new ArrayList<>()).add(words);
        if (!runs) return;
        tests++;
        sentence = where + ", \"" + words + "\": ";
        x = new SlicedBills();
        before = null;
        for (String line : rows.split("\n")) {
            for (String row : line.trim().split(" +\\| +")) if (!row.isEmpty() && !row.startsWith("#")) row(row.trim());
        }
    }

    void end() {
        System.out.println(tests + " sentences, " + asked + " answers, " + wrong + " not as due");
        if (wrong != 0) System.exit(1);
    }

    private void due(String what, Object got, Object want) {
        asked++;
        if (!got.equals(want)) {
            wrong++;
            System.out.println(sentence + what + " answered " + got + ", due is " + want);
        }
    }

    private void row(String row) {
        int arrow = row.lastIndexOf(" -> ");
        String call = arrow < 0 ? row : row.substring(0, arrow);
        String want = arrow < 0 ? null : row.substring(arrow + 4);
        int times = 1;
        if (call.matches("\\d+ \\* .*")) {
            times = Integer.parseInt(call.substring(0, call.indexOf(' ')));
            call = call.substring(call.indexOf('*') + 2);
        }
        for (int i = 0; i < times; i++) one(call, want);
    }

    private void one(String call, String want) {
        if (call.equals("new")) { x = new SlicedBills(); return; }
        if (call.equals("other")) { other(); return; }
        if (call.startsWith("fill ")) { fill(Integer.parseInt(call.substring(5))); return; }
        if (call.startsWith("line ")) { line(call); return; }
        if (want == null) throw new IllegalArgumentException("no answer: " + call);
        String name = call.split("[ (]")[0];
        List<Object> args = new ArrayList<>();
        if (call.contains("\"")) {
            String text = call.substring(call.indexOf('"') + 1, call.lastIndexOf('"'));
            String more = call.substring(call.lastIndexOf('"') + 1).trim();
            int last = feed(text.getBytes(StandardCharsets.ISO_8859_1));
            if (name.equals("feed")) { due(call, String.valueOf(last), want); return; }
            args.add(text.length());
            if (!more.isEmpty()) args.add(Integer.parseInt(more));
        } else if (call.contains("[")) {
            String[] numbers = call.substring(call.indexOf('[') + 1, call.indexOf(']')).split(" ");
            byte[] bytes = new byte[numbers.length];
            for (int i = 0; i < bytes.length; i++) bytes[i] = (byte) Integer.parseInt(numbers[i]);
            feed(bytes);
            args.add(bytes.length);
        } else {
            String inside = call.substring(call.indexOf('(') + 1, call.lastIndexOf(')'));
            for (String a : inside.split(", ")) if (!a.isEmpty()) args.add(argument(a));
        }
        ask(call, name, args, want);
    }

    private static Object argument(String text) {
        switch (text) {
            case "true": return true;
            case "false": return false;
            case "MIN": return Integer.MIN_VALUE;
            case "MAX": return Integer.MAX_VALUE;
            default: return Integer.parseInt(text);
        }
    }

    private void ask(String call, String name, List<Object> args, String want) {
        String before = state(x);
        int tape = x.count(2);
        Object got;
        try {
            got = METHODS.get(name).invoke(x, args.toArray());
        } catch (ReflectiveOperationException e) {
            due(call, "an exception, " + e.getCause(), want);
            return;
        }
        due(call, String.valueOf(got), want);
        if (isQuiet(name, got)) due("all that can be asked behind " + call, state(x), before);
        due("the tape behind " + call, x.count(2), tapeBehind(name, got, tape));
    }

    private static boolean isQuiet(String name, Object got) {
        if (!WRITES.contains(name)) return true;
        if (got instanceof Boolean is) return !is;
        int answer = (Integer) got;
        if (answer == 0 && (name.equals("days") || name.equals("deeds"))) return true;
        return OF_CENTS.contains(name) ? answer <= -1000000 : answer < 0;
    }

    private static int tapeBehind(String name, Object got, int before) {
        switch (name) {
            case "feed": return got.equals(-1) ? before : before + 20;
            case "book": case "deeds": case "tried": return got.equals(-1) ? before : 0;
            case "check": return got.equals(-2) ? before : 0;
            default: return before;
        }
    }

    private int feed(byte[] bytes) {
        java.nio.ByteBuffer b = java.nio.ByteBuffer.wrap(java.util.Arrays.copyOf(bytes, (bytes.length + 19) / 20 * 20));
        int last = x.count(2);
        while (b.hasRemaining()) last = x.feed(b.getInt(), b.getInt(), b.getInt(), b.getInt(), b.getInt());
        return last;
    }

    private void other() {
        SlicedBills y = before == null ? new SlicedBills() : before;
        before = x;
        x = y;
    }

    private void fill(int most) {
        x.begin(5, 5, 1);
        if ((most - x.count(0)) % 2 != 0) x.begin(4, 5, 1);
        for (int i = 0; i < 200 && x.count(0) < most; i++) x.change(5, 4 + i % 2);
        due("fill", x.count(0), most);
    }

    private void line(String call) {
        int entry = Integer.parseInt(call.split(" ")[1]);
        String text = call.substring(call.indexOf('"') + 1, call.lastIndexOf('"'));
        due("bytes of " + call, x.line(entry, -1), text.length());
        for (int i = 0; i < text.length(); i++) due("byte " + i + " of " + call, x.line(entry, i), (int) text.charAt(i));
        due("the byte behind " + call, x.line(entry, text.length()), -4);
    }

    /** All that can be asked, but for the tape. */
    private static String state(SlicedBills x) {
        StringBuilder s = new StringBuilder();
        s.append(x.count(0)).append(' ').append(x.count(1)).append(' ').append(x.count(3));
        for (int w = 0; w < 24; w++) s.append(' ').append(x.billIs(w));
        for (int p = 0; p < 6; p++) for (int w = 0; w < 43; w++) s.append(' ').append(x.plan(p, w));
        for (int a = 0; a < 6; a++) {
            for (int w = 0; w < 20; w++) s.append(' ').append(x.accountIs(a, w));
            for (int w = 0; w < 4; w++) s.append(' ').append(x.owes(a, w));
        }
        for (int i = 0; i < x.count(0); i++) for (int w = 0; w < 10; w++) s.append(' ').append(x.entry(i, w));
        return s.toString();
    }
}
