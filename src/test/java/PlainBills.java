import java.time.LocalDate;
import java.util.ArrayList;
import java.util.List;

/**
 * The document written down once more, as plainly as it goes and without the program's rules or thrift:
 * every answer is worked out anew from the list of ENTRIES. Random runs are compared with it.
 */
public final class PlainBills {
    private static final LocalDate DAY_0 = LocalDate.of(2024, 1, 1);
    private static final int NO = -1000000;

    private static final class Fault extends RuntimeException {
        private static final long serialVersionUID = 1L;
        final int answer;
        Fault(int number, int place) { super(null, null, false, false); answer = -1000 * number - place; }
    }

    private static final class Plan {
        int price, free, rest, mode, pause;
        List<int[]> tiers = new ArrayList<>(), bulks = new ArrayList<>();
    }

    private static final class Book {
        Plan[] plans = new Plan[6];
        int less, lessFor, fee, clauses;
        List<int[]> taxes = new ArrayList<>();
        Book() { for (int i = 0; i < 6; i++) plans[i] = new Plan(); }
    }

    private record Acc(int plan, int anchor, int number, int first, int end, int units, boolean paused,
                       boolean ended, int paid, int seats) { }

    private record Ent(int kind, int account, int day, int number, int from, int to, int plan, int cents, int turns) { }

    private static final class State {
        Book book = new Book();
        Acc[] acc = new Acc[6];
        List<Ent> ents = new ArrayList<>();
        int today;
        State copy() {
            State s = new State();
            s.book = book;
            s.acc = acc.clone();
            s.ents = new ArrayList<>(ents);
            s.today = today;
            return s;
        }
    }

    private byte[] tape = new byte[0];
    private State s = new State();
    private State kept;

    // ---- days ----

    private static LocalDate at(int day) { return DAY_0.plusDays(day); }

    private static boolean isTurn(int anchor, int day) {
        LocalDate d = at(day);
        return d.getDayOfMonth() == Math.min(anchor, d.lengthOfMonth());
    }

    private static int spanFirst(int anchor, int day) { int d = day; while (!isTurn(anchor, d)) d--; return d; }

    private static int spanEnd(int anchor, int day) { int d = day + 1; while (!isTurn(anchor, d)) d++; return d; }

    private static int partOf(int price, int anchor, int from, int to) {
        int first = spanFirst(anchor, from);
        int length = spanEnd(anchor, from) - first;
        return price * (to - first) / length - price * (from - first) / length;
    }

    // ---- costs ----

    private static int use(Plan p, int units) {
        int v = Math.max(units - p.free, 0);
        if (p.mode == 1) {
            for (int[] t : p.tiers) if (t[0] >= v) return v * t[1];
            return v * p.rest;
        }
        int sum = 0;
        for (int unit = 1; unit <= v; unit++) {
            int cents = p.rest;
            for (int i = p.tiers.size() - 1; i >= 0; i--) if (unit <= p.tiers.get(i)[0]) cents = p.tiers.get(i)[1];
            sum += cents;
        }
        return sum;
    }

    private static int worth(State s, Acc a) {
        Plan p = s.book.plans[a.plan];
        int w = p.price * a.seats;
        int off = 0;
        for (int[] b : p.bulks) if (b[0] <= a.seats) off = b[1];
        w -= w * off / 100;
        if (a.number < s.book.lessFor) w -= w * s.book.less / 100;
        if (a.paused) w = w * p.pause / 100;
        return w;
    }

    private static int all(State s, int account) {
        return s.ents.stream().filter(e -> e.account == account).mapToInt(Ent::cents).sum();
    }

    private static int rate(State s, int day) {
        int r = 0;
        for (int[] t : s.book.taxes) if (t[0] <= day) r = t[1];
        return r;
    }

    // ---- deeds, on any state; what they answer is what the calls answer ----

    private static boolean begun(State s, int a) { return a >= 0 && a <= 5 && s.acc[a] != null; }
    private static boolean runs(State s, int a) { return begun(s, a) && !s.acc[a].ended; }

    private static Acc with(Acc a, int plan, int seats, boolean paused, int units) {
        return new Acc(plan, a.anchor, a.number, a.first, a.end, units, paused, a.ended, a.paid, seats);
    }

    private static void credit(State s, int x) {
        Acc a = s.acc[x];
        s.ents.add(new Ent(1, x, s.today, a.number, s.today, a.end, a.plan, -partOf(worth(s, a), a.anchor, s.today, a.end), -2));
    }

    private static void charge(State s, int x) {
        Acc a = s.acc[x];
        s.ents.add(new Ent(0, x, s.today, a.number, s.today, a.end, a.plan, partOf(worth(s, a), a.anchor, s.today, a.end), -2));
    }

    private static void usage(State s, int x) {
        Acc a = s.acc[x];
        s.ents.add(new Ent(2, x, s.today, a.number, a.first, s.today, a.plan, use(s.book.plans[a.plan], a.units), -2));
        s.acc[x] = with(a, a.plan, a.seats, a.paused, 0);
    }

    private static int begin(State s, int x, int plan, int anchor) {
        if (x < 0 || x > 5 || plan < 0 || plan > 5 || anchor < 1 || anchor > 31) return -1;
        if (s.ents.size() >= 400) return -3;
        if (begun(s, x)) return -4;
        int end = spanEnd(anchor, s.today);
        if (end > 3652) return -5;
        s.acc[x] = new Acc(plan, anchor, 0, s.today, end, 0, false, false, 0, 1);
        charge(s, x);
        return s.ents.get(s.ents.size() - 1).cents;
    }

    private static int amend(State s, int x, boolean same, Acc then) {
        if (same) return NO;
        if (s.ents.size() > 398) return NO - 1;
        int before = all(s, x);
        credit(s, x);
        s.acc[x] = then;
        charge(s, x);
        return all(s, x) - before;
    }

    private static int change(State s, int x, int plan) {
        if (!runs(s, x) || plan < 0 || plan > 5) return NO;
        Acc a = s.acc[x];
        return amend(s, x, a.plan == plan, with(a, plan, a.seats, a.paused, a.units));
    }

    private static int seats(State s, int x, int seats) {
        if (!runs(s, x) || seats < 1 || seats > 9) return NO;
        Acc a = s.acc[x];
        return amend(s, x, a.seats == seats, with(a, a.plan, seats, a.paused, a.units));
    }

    private static int pause(State s, int x, boolean is) {
        if (!runs(s, x)) return NO;
        Acc a = s.acc[x];
        return amend(s, x, a.paused == is, with(a, a.plan, a.seats, is, a.units));
    }

    private static int giveUp(State s, int x) {
        if (!runs(s, x)) return NO;
        if (s.ents.size() > 398) return NO - 1;
        int before = all(s, x);
        credit(s, x);
        usage(s, x);
        Acc a = s.acc[x];
        s.acc[x] = new Acc(a.plan, a.anchor, a.number, a.first, a.end, 0, a.paused, true, a.paid, a.seats);
        return all(s, x) - before;
    }

    private static int move(State s, int x, int anchor) {
        if (!runs(s, x) || anchor < 1 || anchor > 31 || s.acc[x].anchor == anchor) return NO;
        if (s.ents.size() > 397) return NO - 1;
        if (spanEnd(anchor, s.today) > 3652) return NO - 2;
        int before = all(s, x);
        credit(s, x);
        usage(s, x);
        next(s, x, anchor);
        return all(s, x) - before;
    }

    private static void next(State s, int x, int anchor) {
        Acc a = s.acc[x];
        s.acc[x] = new Acc(a.plan, anchor, a.number + 1, s.today, spanEnd(anchor, s.today), 0, a.paused, false, a.paid, a.seats);
        charge(s, x);
    }

    private static int use(State s, int x, int units) {
        if (!runs(s, x) || units < 0) return -1;
        Acc a = s.acc[x];
        if (a.paused) return -2;
        if ((long) a.units + units > 9999) return -3;
        s.acc[x] = with(a, a.plan, a.seats, a.paused, a.units + units);
        return a.units + units;
    }

    private static boolean dayPasses(State s) {
        State t = s.copy();
        t.today++;
        for (int x = 0; x < 6; x++) {
            if (!runs(t, x) || t.acc[x].end != t.today) continue;
            usage(t, x);
            next(t, x, t.acc[x].anchor);
            if (t.acc[x].end > 3652) return false;
        }
        if (t.today > 3652 || t.ents.size() > 400) return false;
        s.acc = t.acc;
        s.ents = t.ents;
        s.today = t.today;
        return true;
    }

    private static int days(State s, int n) {
        if (n < 1 || n > 400) return -1;
        for (int i = 0; i < n; i++) if (!dayPasses(s)) return i;
        return n;
    }

    private static int favour(State s, int x, int cents) {
        if (!begun(s, x) || cents < 1 || cents > all(s, x)) return NO;
        if (s.ents.size() >= 400) return NO - 1;
        Acc a = s.acc[x];
        s.ents.add(new Ent(3, x, s.today, a.number, s.today, s.today, a.plan, -cents, -2));
        return all(s, x);
    }

    private static int pay(State s, int x, int cents) {
        if (!begun(s, x) || cents < 1 || cents > 999999 || s.acc[x].paid + cents > 99999999) return -1;
        Acc a = s.acc[x];
        s.acc[x] = new Acc(a.plan, a.anchor, a.number, a.first, a.end, a.units, a.paused, a.ended, a.paid + cents, a.seats);
        return s.acc[x].paid;
    }

    private static int remind(State s, int x) {
        if (!begun(s, x)) return -1;
        long late = late(s, x, s.today);
        if (late == 0) return -2;
        if (s.ents.size() >= 400) return -3;
        for (Ent e : s.ents) if (e.account == x && e.kind == 5 && e.day == s.today) return -4;
        Acc a = s.acc[x];
        int fee = (int) Math.min(99999, late * s.book.fee / 100);
        s.ents.add(new Ent(5, x, s.today, a.number, s.today, s.today, a.plan, fee, -2));
        return fee;
    }

    private static int turnedBy(State s, int i) {
        for (int k = 0; k < s.ents.size(); k++) if (s.ents.get(k).turns == i) return k;
        return -2;
    }

    private static int turn(State s, int i) {
        if (i < 0 || i >= s.ents.size()) return -1;
        Ent e = s.ents.get(i);
        if (e.kind == 4 || turnedBy(s, i) >= 0) return -2;
        if (s.ents.size() >= 400) return -3;
        if (all(s, e.account) - e.cents < 0) return -4;
        s.ents.add(new Ent(4, e.account, s.today, e.number, e.from, e.to, e.plan, -e.cents, i));
        return s.ents.size() - 1;
    }

    // ---- what is open ----

    /** Of each ENTRY the cents that are OPEN (0 of other accounts' ones); last what is left behind COVER. */
    private static long[] opens(State s, int x) {
        long cover = s.acc[x].paid;
        for (Ent e : s.ents) if (e.account == x && e.cents < 0) cover -= e.cents;
        long[] open = new long[s.ents.size() + 1];
        for (int i = 0; i < s.ents.size(); i++) {
            Ent e = s.ents.get(i);
            if (e.account != x || e.cents <= 0) continue;
            long taken = Math.min(cover, e.cents);
            cover -= taken;
            open[i] = e.cents - taken;
        }
        open[s.ents.size()] = cover;
        return open;
    }

    private static int late(State s, int x, int day) {
        long[] open = opens(s, x);
        long sum = 0;
        for (int i = 0; i < s.ents.size(); i++) if (s.ents.get(i).day + 14 < day) sum += open[i];
        return (int) sum;
    }

    // ---- texts: a template for each CLAUSE and STEP, read sign by sign ----

    private static final String[] CLAUSES = {"price P 0:99999", "free P 0:9999", "tier P 1:9999 0:99", "rest P 0:99",
        "mode P adding|whole", "pause P 0:100", "less 0:100 0:99", "fee 0:20", "bulk P 2:9 0:100", "tax 0:3652 0:100"};
    private static final String[] STEPS = {"begin X P 0:99999", "change X P", "seats X 0:99999", "stop X", "on X",
        "quit X", "use X 0:99999", "days 0:99999", "favour X 0:99999", "pay X 0:99999", "remind X",
        "move X 0:99999", "turn 0:99999"};

    private interface Watch { void seen(List<Object> soFar, int place); }

    private static String wordAt(String text, int place) {
        int end = place;
        while (end < text.length() && text.charAt(end) >= 'a' && text.charAt(end) <= 'z') end++;
        return text.substring(place, end);
    }

    private static List<List<Object>> read(String text, String[] templates, int most, Watch watch) {
        List<List<Object>> lines = new ArrayList<>();
        int place = 0;
        while (true) {
            if (lines.size() == most) throw new Fault(4, place);
            List<Object> line = new ArrayList<>();
            String word = wordAt(text, place);
            String[] parts = null;
            for (String t : templates) if (t.split(" ")[0].equals(word)) parts = t.split(" ");
            if (parts == null) throw new Fault(1, place);
            line.add(word);
            watch.seen(line, place);
            place += word.length();
            for (int k = 1; k < parts.length; k++) {
                if (place >= text.length() || text.charAt(place) != ' ') throw new Fault(1, place);
                place++;
                int at = place;
                if (parts[k].equals("P")) {
                    if (place >= text.length() || "ABCDEF".indexOf(text.charAt(place)) < 0) throw new Fault(1, place);
                    line.add(text.charAt(place++) - 'A');
                } else if (parts[k].equals("X")) {
                    int digit = place < text.length() ? "0123456789".indexOf(text.charAt(place)) : -1;
                    if (digit < 0) throw new Fault(1, place);
                    if (digit > 5) throw new Fault(3, place);
                    line.add(digit);
                    place++;
                } else if (parts[k].contains("|")) {
                    String w = wordAt(text, place);
                    if (w.isEmpty() || !List.of(parts[k].split("\\|")).contains(w)) throw new Fault(1, place);
                    line.add(w);
                    place += w.length();
                } else {
                    while (place < text.length() && text.charAt(place) >= '0' && text.charAt(place) <= '9') place++;
                    if (place - at > 5) throw new Fault(2, at + 5);
                    if (place == at) throw new Fault(1, at);
                    int n = Integer.parseInt(text.substring(at, place));
                    if (n < Integer.parseInt(parts[k].split(":")[0]) || n > Integer.parseInt(parts[k].split(":")[1])) throw new Fault(3, at);
                    line.add(n);
                }
                watch.seen(line, at);
            }
            lines.add(line);
            watch.seen(null, place);
            if (place == text.length()) return lines;
            if (text.charAt(place) != ';') throw new Fault(1, place);
            place++;
        }
    }

    private static Book readBook(String text) {
        Book b = new Book();
        List<Object> last = new ArrayList<>();
        Watch watch = (line, place) -> {
            if (line == null) { tell(b, last); return; }
            last.clear();
            last.addAll(line);
            Object word = line.get(0);
            int n = line.size();
            if (n == 1 && word.equals("tax") && b.taxes.size() == 4) throw new Fault(6, place);
            if (n == 2 && word.equals("tax") && !above(b.taxes, line.get(1))) throw new Fault(6, place);
            if (!word.equals("tier") && !word.equals("bulk")) return;
            Plan p = n > 1 ? b.plans[(Integer) line.get(1)] : null;
            if (p == null) return;
            List<int[]> rows = word.equals("tier") ? p.tiers : p.bulks;
            if (n == 2 && rows.size() == (word.equals("tier") ? 4 : 3)) throw new Fault(6, place);
            if (n == 3 && !above(rows, line.get(2))) throw new Fault(6, place);
        };
        b.clauses = read(text, CLAUSES, 20, watch).size();
        return b;
    }

    private static boolean above(List<int[]> rows, Object value) {
        for (int[] row : rows) if (row[0] >= (Integer) value) return false;
        return true;
    }

    private static void tell(Book b, List<Object> l) {
        switch ((String) l.get(0)) {
            case "price" -> b.plans[(Integer) l.get(1)].price = (Integer) l.get(2);
            case "free" -> b.plans[(Integer) l.get(1)].free = (Integer) l.get(2);
            case "tier" -> b.plans[(Integer) l.get(1)].tiers.add(new int[] {(Integer) l.get(2), (Integer) l.get(3)});
            case "rest" -> b.plans[(Integer) l.get(1)].rest = (Integer) l.get(2);
            case "mode" -> b.plans[(Integer) l.get(1)].mode = l.get(2).equals("whole") ? 1 : 0;
            case "pause" -> b.plans[(Integer) l.get(1)].pause = (Integer) l.get(2);
            case "less" -> { b.less = (Integer) l.get(1); b.lessFor = (Integer) l.get(2); }
            case "fee" -> b.fee = (Integer) l.get(1);
            case "bulk" -> b.plans[(Integer) l.get(1)].bulks.add(new int[] {(Integer) l.get(2), (Integer) l.get(3)});
            default -> b.taxes.add(new int[] {(Integer) l.get(1), (Integer) l.get(2)});
        }
    }

    private static boolean did(State s, List<Object> l) {
        int a = l.get(1) instanceof Integer n ? n : 0;
        int b = l.size() > 2 ? (Integer) l.get(2) : 0;
        return switch ((String) l.get(0)) {
            case "begin" -> begin(s, a, b, (Integer) l.get(3)) >= 0;
            case "change" -> change(s, a, b) > NO;
            case "seats" -> seats(s, a, b) > NO;
            case "stop" -> pause(s, a, true) > NO;
            case "on" -> pause(s, a, false) > NO;
            case "quit" -> giveUp(s, a) > NO;
            case "use" -> use(s, a, b) >= 0;
            case "days" -> days(s, a) != -1;
            case "favour" -> favour(s, a, b) > NO;
            case "pay" -> pay(s, a, b) >= 0;
            case "remind" -> remind(s, a) >= 0;
            case "move" -> move(s, a, b) > NO;
            default -> turn(s, a) >= 0;
        };
    }

    private static int doAll(State s, String text) {
        List<List<Object>> steps = read(text, STEPS, 24, (l, p) -> { });
        int done = 0;
        for (List<Object> step : steps) {
            if (!did(s, step)) break;
            done++;
        }
        return done;
    }

    private String take(int n) {
        StringBuilder text = new StringBuilder();
        for (int i = 0; i < n; i++) text.append((char) (tape[i] & 255));
        tape = new byte[0];
        return text.toString();
    }

    private boolean noText(int n) { return n < 1 || n > 200 || n > tape.length; }

    // ---- the face ----

    public int feed(int a, int b, int c, int d, int e) {
        if (tape.length + 20 > 400) return -1;
        java.nio.ByteBuffer more = java.nio.ByteBuffer.allocate(tape.length + 20);
        more.put(tape).putInt(a).putInt(b).putInt(c).putInt(d).putInt(e);
        tape = more.array();
        return tape.length;
    }

    public int book(int n) {
        if (noText(n)) return -1;
        String text = take(n);
        if (!s.ents.isEmpty()) return -3;
        try {
            s.book = readBook(text);
            return s.book.clauses;
        } catch (Fault f) {
            return f.answer;
        }
    }

    public int begin(int account, int plan, int anchor) { return begin(s, account, plan, anchor); }
    public int change(int account, int plan) { return change(s, account, plan); }
    public int seats(int account, int seats) { return seats(s, account, seats); }
    public int pause(int account, boolean is) { return pause(s, account, is); }
    public int giveUp(int account) { return giveUp(s, account); }
    public int move(int account, int anchor) { return move(s, account, anchor); }
    public int use(int account, int units) { return use(s, account, units); }
    public int days(int n) { return days(s, n); }
    public int favour(int account, int cents) { return favour(s, account, cents); }
    public int pay(int account, int cents) { return pay(s, account, cents); }
    public int remind(int account) { return remind(s, account); }
    public int turn(int entry) { return turn(s, entry); }

    public int tax(int entry) {
        if (entry < 0 || entry >= s.ents.size()) return NO;
        Ent e = s.ents.get(entry);
        int n = rate(s, e.day);
        long upTo = 0, ahead = 0;
        for (int i = 0; i <= entry; i++) {
            Ent o = s.ents.get(i);
            if (o.account != e.account || rate(s, o.day) != n) continue;
            upTo += o.cents;
            if (i < entry) ahead += o.cents;
        }
        return (int) (upTo * n / 100 - ahead * n / 100);
    }

    public int taxes(int account, int rate) {
        if (!begun(s, account) || rate < 0 || rate > 100) return NO;
        int sum = 0;
        for (int i = 0; i < s.ents.size(); i++) {
            if (s.ents.get(i).account == account && rate(s, s.ents.get(i).day) == rate) sum += tax(i);
        }
        return sum;
    }

    public int deeds(int n) {
        if (noText(n)) return -1;
        try { return doAll(s, take(n)); } catch (Fault f) { return f.answer; }
    }

    public int tried(int n, int account) {
        if (noText(n) || account < 0 || account > 5) return -1;
        State t = s.copy();
        try { doAll(t, take(n)); } catch (Fault f) { return f.answer; }
        return begun(t, account) ? all(t, account) : NO;
    }

    public int late(int account, int day) {
        return begun(s, account) && day >= s.today && day <= 3652 ? late(s, account, day) : NO;
    }

    public int open(int entry) {
        return entry >= 0 && entry < s.ents.size() ? (int) opens(s, s.ents.get(entry).account)[entry] : NO;
    }

    public int owes(int account, int what) {
        if (!begun(s, account) || what < 0 || what > 3) return -1;
        long[] open = opens(s, account);
        int many = 0, first = -2;
        long sum = 0;
        for (int i = s.ents.size() - 1; i >= 0; i--) {
            if (open[i] > 0) { many++; first = i; sum += open[i]; }
        }
        return new int[] {many, first, (int) sum, (int) open[s.ents.size()]}[what];
    }

    public int earned(int account, int day) {
        if (!begun(s, account) || day < 0 || day > 3653) return NO;
        int sum = 0;
        for (Ent e : s.ents) {
            if (e.account != account) continue;
            if (e.kind > 1 || e.from == e.to) {
                sum += e.day < day ? e.cents : 0;
            } else {
                int ahead = 0;
                for (int d = e.from; d < e.to; d++) ahead += d < day ? 1 : 0;
                int part = Math.abs(e.cents) * ahead / (e.to - e.from);
                sum += e.cents < 0 ? -part : part;
            }
        }
        return sum;
    }

    public int written(int from, int to) {
        if (from < 0 || to < from || to > 3652) return NO;
        return s.ents.stream().filter(e -> e.day >= from && e.day <= to).mapToInt(Ent::cents).sum();
    }

    public int plan(int plan, int what) {
        if (plan < 0 || plan > 5 || what < 0) return -1;
        Plan p = s.book.plans[plan];
        if (what <= 5) return new int[] {p.price, p.free, p.tiers.size(), p.rest, p.mode, p.pause}[what];
        int i = what % 10;
        List<int[]> rows = what / 10 <= 2 ? p.tiers : p.bulks;
        if (what < 10 || what > 49 || i > (rows == p.tiers ? 3 : 2)) return -1;
        return i < rows.size() ? rows.get(i)[(what / 10 + 1) % 2] : -2;
    }

    public int billIs(int what) {
        int begun = 0, ended = 0, paused = 0;
        for (int x = 0; x < 6; x++) {
            if (s.acc[x] == null) continue;
            begun += 1 << x;
            if (s.acc[x].ended) ended += 1 << x;
            if (s.acc[x].paused) paused += 1 << x;
        }
        if (what >= 0 && what <= 7) {
            return new int[] {s.book.less, s.book.lessFor, s.today, s.ents.size(), begun, ended, paused, s.book.fee}[what];
        }
        int i = what % 10;
        if (what < 10 || what > 23 || i > 3) return -1;
        return i < s.book.taxes.size() ? s.book.taxes.get(i)[what / 10 - 1] : -2;
    }

    public int usage(int plan, int units) {
        return plan < 0 || plan > 5 || units < 0 || units > 9999 ? -1 : use(s.book.plans[plan], units);
    }

    public int units(int plan, int cents) {
        if (plan < 0 || plan > 5 || cents < 0 || cents > 99999999) return -1;
        Plan p = s.book.plans[plan];
        int sum = 0;
        for (int u = 0; u <= 9999; u++) {
            int v = Math.max(0, u - p.free);
            if (p.mode == 1) {
                sum = use(p, u);
            } else if (v > 0) {
                // What the v-th unit costs: the first TIER that reaches it, else REST.
                int each = p.rest;
                for (int i = p.tiers.size() - 1; i >= 0; i--) if (v <= p.tiers.get(i)[0]) each = p.tiers.get(i)[1];
                sum += each;
            }
            if (sum > cents) return u - 1;
        }
        return 9999;
    }

    public int cheapest(int units) {
        if (units < 0 || units > 9999) return -1;
        int best = 0;
        for (int p = 5; p >= 0; p--) {
            if (use(s.book.plans[p], units) + s.book.plans[p].price <= use(s.book.plans[best], units) + s.book.plans[best].price) best = p;
        }
        for (int p = 0; p < best; p++) {
            if (use(s.book.plans[p], units) + s.book.plans[p].price <= use(s.book.plans[best], units) + s.book.plans[best].price) return p;
        }
        return best;
    }

    public int accountIs(int account, int what) {
        if (!begun(s, account) || what < 0 || what > 19) return NO;
        Acc a = s.acc[account];
        int[] kinds = new int[6];
        int many = 0;
        for (Ent e : s.ents) if (e.account == account) { kinds[e.kind] += e.cents; many++; }
        int length = spanEnd(a.anchor, a.first) - spanFirst(a.anchor, a.first);
        return new int[] {a.plan, a.anchor, a.number, a.first, a.end, length, worth(s, a), a.units, all(s, account),
            a.paused ? 1 : 0, a.ended ? 1 : 0, many, kinds[0], kinds[1], kinds[2], kinds[3], kinds[4], kinds[5], a.paid,
            a.seats}[what];
    }

    public int part(int price, int anchor, int from, int to) {
        if (price < 0 || price > 999999 || anchor < 1 || anchor > 31 || from < 0 || to < from || to > 3652) return -1;
        return to > spanEnd(anchor, from) ? -1 : partOf(price, anchor, from, to);
    }

    public int span(int anchor, int day, int what) {
        if (anchor < 1 || anchor > 31 || day < 0 || day > 3652 || what < 0 || what > 2) return -1;
        int first = spanFirst(anchor, day), end = spanEnd(anchor, day);
        return new int[] {first < 0 ? -2 : first, end, end - first}[what];
    }

    public int date(int day, int what) {
        if (day < 0 || day > 3652 || what < 0 || what > 2) return -1;
        return new int[] {at(day).getYear(), at(day).getMonthValue(), at(day).getDayOfMonth()}[what];
    }

    public int day(int year, int month, int day) {
        if (year < 2024 || year > 2033) return -1;
        try {
            return (int) (LocalDate.of(year, month, day).toEpochDay() - DAY_0.toEpochDay());
        } catch (java.time.DateTimeException none) {
            return -1;
        }
    }

    public int entry(int i, int what) {
        if (i < 0 || i >= s.ents.size() || what < 0 || what > 9) return NO;
        Ent e = s.ents.get(i);
        return new int[] {e.kind, e.account, e.day, e.number, e.from, e.to, e.plan, e.cents, e.turns, turnedBy(s, i)}[what];
    }

    public int line(int entry, int i) {
        if (entry < 0 || entry >= s.ents.size()) return -1;
        Ent e = s.ents.get(entry);
        String kind = List.of("charge", "credit", "usage", "favour", "turned", "fee").get(e.kind);
        String line = String.format("P%d %s to %s %c %s %s%d.%02d", e.number, at(e.from), at(e.to), 'A' + e.plan, kind,
            e.cents < 0 ? "-" : "", Math.abs(e.cents) / 100, Math.abs(e.cents) % 100);
        if (i < -1) return -9;
        if (i == -1) return line.length();
        return i < line.length() ? line.charAt(i) : -4;
    }

    public int period(int account, int number) {
        if (!begun(s, account) || number < 0 || number > 199) return NO;
        return s.ents.stream().filter(e -> e.account == account && e.number == number).mapToInt(Ent::cents).sum();
    }

    public int quote(int account, int plan, int day) {
        if (!runs(s, account) || plan < 0 || plan > 5 || day < s.today || day >= s.acc[account].end) return NO;
        if (plan == s.acc[account].plan) return 0;
        // A CHANGE on that day, done on a copy with room for it.
        State t = s.copy();
        t.ents.removeIf(e -> e.account != account);
        while (t.ents.size() > 300) t.ents.remove(0);
        t.today = day;
        return change(t, account, plan);
    }

    public int best(int account, int plan, int what) {
        if (!runs(s, account) || plan < 0 || plan > 5 || what < 0 || what > 2) return NO;
        if (what == 2) {
            int best = 0;
            for (int p = 1; p < 6; p++) if (quote(account, p, s.today) < quote(account, best, s.today)) best = p;
            return best;
        }
        int best = s.today;
        for (int d = s.today; d < s.acc[account].end; d++) if (quote(account, plan, d) < quote(account, plan, best)) best = d;
        return what == 0 ? best : quote(account, plan, best);
    }

    public int ahead(int account, int days) {
        if (!begun(s, account) || days < 0 || days > 400) return NO;
        State t = s.copy();
        days(t, days);
        return all(t, account);
    }

    public int when(int account, int cents) {
        if (!begun(s, account)) return -1;
        State t = s.copy();
        for (int k = 0; k <= 400; k++) {
            if (all(t, account) >= cents) return k;
            if (k < 400 && !dayPasses(t)) return -2;
        }
        return -2;
    }

    public int keep() { kept = s.copy(); return s.ents.size(); }

    public boolean undo() {
        if (kept == null) return false;
        s = kept.copy();
        return true;
    }

    public int check(int n) {
        if (n < 0 || n > 400 || n > tape.length) return -2;
        byte[] bytes = tape;
        tape = new byte[0];
        for (int i = 0; i < n; i++) {
            if (i >= s.ents.size() || Math.floorMod(s.ents.get(i).cents, 256) != (bytes[i] & 255)) return i;
        }
        return -1;
    }

    public int count(int what) {
        return what < 0 || what > 3 ? -1 : new int[] {s.ents.size(), s.today, tape.length, s.book.clauses}[what];
    }
}
