import java.lang.reflect.Method;
import java.nio.charset.StandardCharsets;
import java.util.ArrayList;
import java.util.Arrays;
import java.util.HashMap;
import java.util.List;
import java.util.Map;
import java.util.Random;
import java.util.TreeMap;

/**
 * Random runs of at most 512 calls, each call answered by the program and by PlainBills alike.
 * With arguments: first seed, how many runs.
 */
public final class RandomRunsTest {
    private static final Map<String, Method> OURS = methods(SlicedBills.class);
    private static final Map<String, Method> PLAIN = methods(PlainBills.class);
    private static final int[] ODD = {Integer.MIN_VALUE, Integer.MAX_VALUE, -2, -1, 0, 1, 400, 401, 3652, 3653, 9999, 10000,
        99999999, 100000000, 999999, 1000000};
    private static final String[] SHAPES = {"begin aph", "change ap", "seats as", "tax e", "taxes ar", "pause ab", "giveUp a",
        "move ah", "use au", "days n", "favour ac", "pay ac", "remind a", "late ad", "open e", "owes aw", "earned ad",
        "written dd", "turn e", "plan pW", "billIs W", "usage pu", "units pc", "cheapest u", "accountIs aw", "part Phqq",
        "span hdw", "date dw", "day yms", "entry ew", "line el", "period ak", "quote apq", "best apv", "ahead an",
        "when ac", "keep ", "undo ", "check t", "count w", "feed xxxxx"};

    private final Random random;
    private final SlicedBills ours = new SlicedBills();
    private final PlainBills plain = new PlainBills();
    private final List<String> calls = new ArrayList<>();
    private int size;
    private int today;
    private static final Map<String, TreeMap<String, Integer>> SEEN = new TreeMap<>();

    private RandomRunsTest(long seed) { random = new Random(seed); }

    private static Map<String, Method> methods(Class<?> type) {
        Map<String, Method> all = new HashMap<>();
        for (Method m : type.getMethods()) if (m.getDeclaringClass() == type) all.put(m.getName(), m);
        return all;
    }

    public static void main(String[] args) throws Exception {
        long first = args.length > 0 ? Long.parseLong(args[0]) : 1;
        long runs = args.length > 1 ? Long.parseLong(args[1]) : 600;
        for (long seed = first; seed < first + runs; seed++) {
            RandomRunsTest run = new RandomRunsTest(seed);
            if (!run.isRight(seed)) {
                System.out.println("seed " + seed + ":");
                run.calls.forEach(System.out::println);
                System.exit(1);
            }
        }
        if (args.length > 2) SEEN.forEach((name, answers) -> System.out.println(name + " " + answers));
        // A run that never meets a refusal or a limit would prove little.
        int poor = 0;
        for (String need : List.of("begin -3", "begin -4", "begin -5", "change -1000001", "move -1000001", "move -1000002",
                "favour -1000001", "remind -2", "remind -3", "remind -4", "turn -2", "turn -3", "turn -4", "use -2", "use -3",
                "book -3", "check -2", "when -2", "line -4", "line -9", "owes -2", "plan -2", "billIs -2", "tried -1000000")) {
            String[] n = need.split(" ");
            if (!SEEN.getOrDefault(n[0], new TreeMap<>()).containsKey(n[1])) { poor++; System.out.println("never seen: " + need); }
        }
        System.out.println(runs + " random runs are as due");
        if (poor > 0 && runs >= 600) System.exit(1);
    }

    private boolean isRight(long seed) throws Exception {
        int style = (int) (seed % 6);
        if (random.nextInt(8) == 0 && !call("days", n(400))) return false;
        if (!text("book", style == 3 ? 0.5 : 0.05)) return false;
        for (int x = 0; x < 3; x++) {
            if (random.nextInt(5) > 0 && !call("begin", x, random.nextInt(6), argument('h'))) return false;
            if (random.nextInt(4) == 0 && !call("days", 1 + random.nextInt(20))) return false;
        }
        int most = (style == 1 ? 400 : 60) + random.nextInt(style == 1 ? 112 : 440);
        if (style == 2) {
            for (int i = 0; i < 4 + random.nextInt(6); i++) if (!call("days", 400 - random.nextInt(20))) return false;
        }
        while (calls.size() < most) {
            double dice = random.nextDouble();
            boolean right;
            if (style == 3 && dice < 0.5) {
                right = text(random.nextBoolean() ? "book" : "tried", 0.7);
            } else if (dice < 0.12) {
                right = text(random.nextInt(4) == 0 ? "tried" : "deeds", style == 1 ? 0.02 : 0.2);
            } else if (style == 1 && size < 396) {
                right = fill();
            } else if (style == 1 && dice < 0.5) {
                right = random.nextBoolean() ? money() : call("begin", random.nextInt(6), random.nextInt(6), argument('h'));
            } else if (style == 2 && dice < 0.3) {
                right = call("days", 1 + random.nextInt(random.nextBoolean() ? 40 : 400));
            } else if (style == 4 && dice < 0.4) {
                right = money();
            } else if (dice < 0.14) {
                right = text("book", 0.3);
            } else if (dice < 0.15) {
                right = bytes();
            } else {
                right = any();
            }
            if (!right) return false;
        }
        return sweep();
    }

    /** At the end of a run all that can be asked of its first accounts and ENTRIES. */
    private boolean sweep() throws Exception {
        for (int w = -1; w <= 20; w++) for (int a = 0; a < 3; a++) if (!call("accountIs", a, w)) return false;
        for (int e = Math.max(0, size - 12); e < size; e++) {
            if (!call("tax", e) || !call("open", e) || !call("line", e, -1)) return false;
            for (int w = 0; w < 10; w++) if (!call("entry", e, w)) return false;
        }
        return true;
    }

    /** What writes many ENTRIES with few calls. */
    private boolean fill() throws Exception {
        int x = random.nextInt(3);
        switch (random.nextInt(8)) {
            case 0: return call("pause", x, random.nextBoolean());
            case 1: return call("seats", x, 1 + random.nextInt(9));
            case 2: return call("move", x, 1 + random.nextInt(31));
            case 3: return call("days", 1 + random.nextInt(4));
            case 4: return call("begin", x, random.nextInt(6), 1 + random.nextInt(28));
            default: return call("change", x, random.nextInt(6));
        }
    }

    private boolean money() throws Exception {
        int a = random.nextInt(3);
        return switch (random.nextInt(7)) {
            case 0 -> call("pay", a, 1 + random.nextInt(random.nextBoolean() ? 5000 : 999999));
            case 1 -> call("favour", a, 1 + random.nextInt(2000));
            case 2 -> call("remind", a);
            case 3 -> call("turn", entryNumber());
            case 4 -> call("owes", a, random.nextInt(4));
            case 5 -> call("late", a, today + random.nextInt(40));
            default -> call("days", 1 + random.nextInt(25));
        };
    }

    private boolean any() throws Exception {
        String[] shape = SHAPES[random.nextInt(SHAPES.length)].split(" ", 2);
        // An account that is given up early makes a dull run.
        if (shape[0].equals("giveUp") && random.nextInt(3) > 0) return true;
        Object[] args = new Object[shape[1].length()];
        for (int i = 0; i < args.length; i++) args[i] = argument(shape[1].charAt(i));
        return call(shape[0], args);
    }

    private static Object[] n(Object... args) { return args; }

    private int entryNumber() { return size == 0 ? 0 : random.nextInt(4) == 0 ? Math.max(0, size - 1 - random.nextInt(4)) : random.nextInt(size); }

    private Object argument(char kind) {
        if (kind == 'b') return random.nextBoolean();
        if (random.nextInt(60) == 0) return ODD[random.nextInt(ODD.length)];
        boolean edge = random.nextInt(25) == 0;
        switch (kind) {
            case 'a': return edge ? random.nextBoolean() ? -1 : 6 : random.nextInt(10) == 0 ? random.nextInt(6) : random.nextInt(3);
            case 'p': return edge ? random.nextBoolean() ? -1 : 6 : random.nextInt(6);
            case 'h': return edge ? random.nextBoolean() ? 0 : 32 : random.nextInt(3) == 0 ? 27 + random.nextInt(5) : 1 + random.nextInt(31);
            case 's': return edge ? 10 : random.nextInt(10);
            case 'e': return edge ? random.nextBoolean() ? -1 : size : entryNumber();
            case 'r': return edge ? 101 : new int[] {0, 7, 19, 20, 100}[random.nextInt(5)];
            case 'u': return edge ? 10000 : random.nextInt(random.nextBoolean() ? 60 : 3000);
            case 'n': return edge ? 0 : 1 + random.nextInt(random.nextInt(4) == 0 ? 401 : 40);
            case 'c': return edge ? -1 : random.nextInt(new int[] {100, 10000, 999999, 99999999}[random.nextInt(4)]);
            case 'd': return edge ? 3652 + random.nextInt(2) : random.nextInt(3) == 0 ? random.nextInt(3653) : Math.min(3653, today + random.nextInt(40));
            case 'w': return edge ? -1 : random.nextInt(random.nextBoolean() ? 4 : 21);
            case 'W': return edge ? -1 : random.nextInt(46);
            case 'q': return edge ? today - 1 : today + random.nextInt(28);
            case 'v': return edge ? 3 : random.nextInt(3);
            case 'P': return edge ? 1000000 : random.nextInt(random.nextBoolean() ? 5000 : 1000000);
            case 'y': return 2023 + random.nextInt(12);
            case 'm': return random.nextInt(14);
            case 'l': return edge ? -2 : random.nextInt(3) == 0 ? -1 : random.nextInt(45);
            case 'k': return edge ? 200 : random.nextInt(random.nextBoolean() ? 4 : 200);
            case 't': return edge ? -1 : random.nextInt(40);
            default: return random.nextInt();
        }
    }

    private boolean call(String name, Object... args) throws Exception {
        Object a = OURS.get(name).invoke(ours, args);
        Object b = PLAIN.get(name).invoke(plain, args);
        calls.add(name + Arrays.toString(args) + " answered " + a + (a.equals(b) ? "" : ", due is " + b));
        size = plain.count(0);
        today = plain.count(1);
        if (b instanceof Integer i) {
            String kind = i < 0 && (i >= -9 || i <= -1000000 && i >= -1000002) ? String.valueOf(i) : i >= 0 ? "+" : "-";
            SEEN.computeIfAbsent(name, x -> new TreeMap<>()).merge(kind, 1, Integer::sum);
        }
        return a.equals(b);
    }

    // ---- texts ----

    private String pick(String words) { String[] w = words.split(" "); return w[random.nextInt(w.length)]; }

    private char letter() { return (char) ('A' + random.nextInt(random.nextInt(3) == 0 ? 6 : 3)); }

    private String bookText() {
        StringBuilder text = new StringBuilder();
        int[] bound = new int[6], seats = new int[6];
        int day = -1;
        int clauses = random.nextInt(12) == 0 ? 21 : 4 + random.nextInt(14);
        String words = random.nextInt(3) == 0 ? pick("tier bulk tax rest") + " price" : "price price free tier tier rest mode pause less fee bulk bulk tax tax";
        for (int i = 0; i < clauses; i++) {
            String word = pick(words);
            int p = letter() - 'A';
            String clause = word + " " + (char) ('A' + p) + " ";
            switch (word) {
                case "price": clause += random.nextInt(random.nextBoolean() ? 5000 : 100000); break;
                case "free": clause += random.nextInt(random.nextInt(5) == 0 ? 10000 : 20); break;
                case "tier": bound[p] += random.nextInt(8) == 0 ? 0 : 1 + random.nextInt(random.nextInt(3) == 0 ? 2000 : 30); clause += bound[p] + " " + random.nextInt(100); break;
                case "rest": clause += random.nextInt(random.nextInt(9) == 0 ? 101 : 100); break;
                case "mode": clause += pick("adding whole"); break;
                case "pause": clause += random.nextInt(101); break;
                case "less": clause = "less " + random.nextInt(101) + " " + random.nextInt(random.nextBoolean() ? 5 : 100); break;
                case "fee": clause = "fee " + random.nextInt(21); break;
                case "bulk": seats[p] = Math.max(2, seats[p] + random.nextInt(4)); clause += seats[p] + " " + random.nextInt(101); break;
                default: day += random.nextInt(8) == 0 ? 0 : 1 + random.nextInt(random.nextBoolean() ? 60 : 900); clause = "tax " + Math.max(0, day) + " " + pick("0 7 19 20 100"); break;
            }
            if (text.length() + clause.length() + 1 > 200) break;
            text.append(i == 0 ? "" : ";").append(clause);
        }
        return text.toString();
    }

    private String stepText() {
        StringBuilder text = new StringBuilder();
        int steps = random.nextInt(10) == 0 ? 25 : 1 + random.nextInt(12);
        boolean few = random.nextInt(4) == 0;
        for (int i = 0; i < steps; i++) {
            int x = random.nextInt(random.nextInt(6) == 0 ? 6 : 3);
            String step = switch (random.nextInt(few ? 5 : 14)) {
                case 0 -> "change " + x + " " + letter();
                case 1 -> "seats " + x + " " + (1 + random.nextInt(9));
                case 2 -> "stop " + x;
                case 3 -> "on " + x;
                case 4, 5 -> "days " + (1 + random.nextInt(random.nextInt(5) == 0 ? 401 : 30));
                case 6 -> "use " + x + " " + random.nextInt(random.nextInt(9) == 0 ? 10001 : 50);
                case 7 -> "favour " + x + " " + random.nextInt(500);
                case 8 -> "pay " + x + " " + random.nextInt(5000);
                case 9 -> "remind " + x;
                case 10 -> "move " + x + " " + (1 + random.nextInt(31));
                case 11 -> "turn " + entryNumber();
                case 12 -> random.nextInt(5) == 0 ? "quit " + x : "begin " + x + " " + letter() + " " + (1 + random.nextInt(31));
                default -> "begin " + x + " " + letter() + " " + (1 + random.nextInt(31));
            };
            if (text.length() + step.length() + 1 > 200) break;
            text.append(i == 0 ? "" : ";").append(step);
        }
        return text.toString();
    }

    private String spoilt(String text) {
        StringBuilder t = new StringBuilder(text);
        for (int i = 0; i <= random.nextInt(2); i++) {
            int at = random.nextInt(t.length() + 1);
            String signs = random.nextBoolean() ? "0123456789" : " ;aeABFGz@[`{/:\u0000\u00ff9";
            char sign = signs.charAt(random.nextInt(signs.length()));
            switch (random.nextInt(3)) {
                case 0 -> t.insert(at, sign);
                case 1 -> { if (at < t.length()) t.setCharAt(at, sign); }
                default -> { if (at < t.length() && t.length() > 1) t.deleteCharAt(at); }
            }
        }
        return t.substring(0, Math.min(200, random.nextInt(5) == 0 ? random.nextInt(t.length() + 1) : t.length()));
    }

    private boolean text(String call, double spoil) throws Exception {
        String text = call.equals("book") ? bookText() : stepText();
        if (random.nextDouble() < spoil) text = spoilt(text);
        if (random.nextInt(30) > 0 && plain.count(2) > 0 && !call("check", 0)) return false;
        byte[] padded = Arrays.copyOf(text.getBytes(StandardCharsets.ISO_8859_1), (text.length() + 19) / 20 * 20);
        calls.add("// " + text);
        if (!feed(padded)) return false;
        int n = random.nextInt(60) == 0 ? random.nextInt(203) - 1 : text.length();
        return call.equals("tried") ? call(call, n, argument('a')) : call(call, n);
    }

    private boolean bytes() throws Exception {
        if (plain.count(2) > 0 && !call("check", 0)) return false;
        byte[] due = new byte[(size + 19) / 20 * 20];
        for (int i = 0; i < size; i++) due[i] = (byte) plain.entry(i, 7);
        if (random.nextInt(3) == 0 && size > 0) due[random.nextInt(size)] ^= 1;
        return feed(due) && call("check", random.nextInt(4) == 0 ? random.nextInt(due.length + 2) : size);
    }

    private boolean feed(byte[] bytes) throws Exception {
        java.nio.ByteBuffer from = java.nio.ByteBuffer.wrap(bytes);
        while (from.remaining() >= 20) {
            if (!call("feed", from.getInt(), from.getInt(), from.getInt(), from.getInt(), from.getInt())) return false;
        }
        return true;
    }
}
