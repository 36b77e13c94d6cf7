/** Promises 42 to 45: keep, undo, check, count. */
public final class KeptTest {
    private static final int MIN = Integer.MIN_VALUE;
    private static final int MAX = Integer.MAX_VALUE;

    public static void main(String[] args) {
        Checks c = new Checks();
        keeps(c);
        keepsEntries(c);
        keepsTheBook(c);
        checks(c);
        counts(c);
        c.end();
    }

    private static void keeps(Checks c) {
        SlicedBills x = Checks.with("price A 3100;price B 6200;rest A 2;fee 5");
        c.due("43 nothing was KEPT", x.undo(), false);
        x.begin(0, 0, 1);
        x.use(0, 5);
        x.pay(0, 7);
        x.days(3);
        c.due("42 keep", x.keep(), 1);
        int[] is = new int[20];
        for (int w = 0; w < 20; w++) is[w] = x.accountIs(0, w);
        x.use(0, 1);
        x.pay(0, 1);
        x.change(0, 1);
        x.seats(0, 4);
        x.turn(0);
        x.move(0, 9);
        x.pause(0, true);
        x.giveUp(0);
        x.begin(3, 1, 31);
        x.days(100);
        x.feed(1, 2, 3, 4, 5);
        c.due("43 undo", x.undo(), true);
        for (int w = 0; w < 20; w++) c.due("43 accountIs(0, " + w + ")", x.accountIs(0, w), is[w]);
        c.due("43 accountIs(3, 0)", x.accountIs(3, 0), Checks.NO);
        c.due("43 ENTRIES", x.count(0), 1);
        c.due("43 TODAY", x.count(1), 3);
        c.due("43 the tape is not undone", x.count(2), 20);
        c.due("43 turned round by none", x.entry(0, 9), -2);
        x.change(0, 1);
        c.due("43 undo once more", x.undo(), true);
        c.due("43 ENTRIES", x.count(0), 1);
        x.change(0, 1);
        c.due("42 keep what is now", x.keep(), 3);
        x.days(50);
        x.undo();
        c.due("43 as it was KEPT last", x.count(0), 3);
        c.due("43 as it was KEPT last", x.entry(2, 6), 1);
        c.due("43 as it was KEPT last", x.entry(1, 7), -3100 + 3100 * 3 / 31);
    }

    private static void keepsEntries(Checks c) {
        SlicedBills x = Checks.with("price A 3100;price B 6200;rest A 2;fee 5");
        x.begin(4, 0, 1);
        x.begin(2, 1, 7);
        x.use(4, 3);
        x.days(16);
        x.remind(4);
        x.change(2, 0);
        x.favour(4, 9);
        x.turn(0);
        int size = x.keep();
        int[][] is = new int[size][10];
        for (int i = 0; i < size; i++) for (int w = 0; w < 10; w++) is[i][w] = x.entry(i, w);
        x.turn(1);
        x.turn(3);
        x.days(40);
        x.undo();
        c.due("43 ENTRIES", x.count(0), size);
        for (int i = 0; i < size; i++) for (int w = 0; w < 10; w++) c.due("43 entry(" + i + ", " + w + ")", x.entry(i, w), is[i][w]);
        c.due("43 not turned round any more", x.turn(1), size);
    }

    private static void keepsTheBook(Checks c) {
        SlicedBills x = Checks.with("price A 1;tier B 5 6;bulk C 2 3;tax 4 5;less 6 7;fee 8;free D 9;rest E 10;mode F whole;pause A 11");
        c.due("42 keep", x.keep(), 0);
        c.due("3 another BOOK", Checks.book(x, "price B 2"), 1);
        x.begin(0, 1, 1);
        c.due("43 undo", x.undo(), true);
        int[][] due = {{0, 0, 1}, {1, 10, 5}, {1, 20, 6}, {2, 30, 2}, {2, 40, 3}, {3, 1, 9}, {4, 3, 10}, {5, 4, 1}, {0, 5, 11}, {1, 0, 0}};
        for (int[] d : due) c.due("43 plan(" + d[0] + ", " + d[1] + ")", x.plan(d[0], d[1]), d[2]);
        int[][] bill = {{0, 6}, {1, 7}, {7, 8}, {10, 4}, {20, 5}, {11, -2}, {3, 0}, {4, 0}};
        for (int[] b : bill) c.due("43 billIs(" + b[0] + ")", x.billIs(b[0]), b[1]);
        c.due("43 CLAUSES", x.count(3), 10);
        c.due("43 without ENTRIES another BOOK goes", Checks.book(x, "fee 1;fee 2"), 2);
    }

    private static void checks(Checks c) {
        SlicedBills x = Checks.with("price A 3100;price B 6200");
        c.due("44 check(0) of none", x.check(0), -1);
        x.begin(0, 0, 1);
        x.days(10);
        x.change(0, 1);
        // 3100, -2100, 4200 are 28, 204, 104.
        byte[] right = {28, (byte) 204, 104};
        Checks.feed(x, right);
        for (int n : new int[] {-1, 21, 401, MAX, MIN}) c.due("44 check(" + n + ")", x.check(n), -2);
        c.due("44 the tape stays", x.count(2), 20);
        c.due("44 right", x.check(3), -1);
        c.due("44 the tape is empty", x.count(2), 0);
        Checks.feed(x, right);
        c.due("44 behind all nothing is", x.check(4), 3);
        Checks.feed(x, right);
        c.due("44 the first two", x.check(2), -1);
        Checks.feed(x, right);
        c.due("44 none of them", x.check(0), -1);
        c.due("44 the tape is empty", x.count(2), 0);
        for (int i = 0; i < 3; i++) {
            byte[] off = right.clone();
            off[i] ^= (byte) 128;
            Checks.feed(x, off);
            c.due("44 byte " + i + " is not so", x.check(3), i);
        }
        c.due("44 check(1) of an empty tape", x.check(1), -2);
        SlicedBills y = Checks.with("price A 3100;price B 6200");
        y.begin(0, 0, 1);
        y.begin(1, 0, 1);
        for (int i = 0; i < 199; i++) y.change(0, 1 - i % 2);
        byte[] all = new byte[400];
        for (int i = 0; i < 400; i++) all[i] = (byte) y.entry(i, 7);
        Checks.feed(y, all);
        c.due("44 400 bytes", y.check(400), -1);
        all[399]++;
        Checks.feed(y, all);
        c.due("44 the last of 400 bytes", y.check(400), 399);
    }

    private static void counts(Checks c) {
        SlicedBills x = Checks.with("price A 3100;fee 1;fee 2");
        x.begin(0, 0, 1);
        x.days(35);
        x.feed(0, 0, 0, 0, 0);
        x.feed(0, 0, 0, 0, 0);
        int[] due = {3, 35, 40, 3};
        for (int w = 0; w < 4; w++) c.due("45 count(" + w + ")", x.count(w), due[w]);
        for (int w : new int[] {-1, 4, MAX, MIN}) c.due("45 count(" + w + ")", x.count(w), -1);
        c.due("NONE", SlicedBills.NONE, -1);
    }
}
