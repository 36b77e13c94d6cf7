/** Promises 7, 8, 16 to 24 and 35 to 37: taxes, favours, payments, reminders, what is open and earned, ENTRIES and LINES. */
public final class MoneyTest {
    private static final int NO = Checks.NO;
    private static final int MIN = Integer.MIN_VALUE;
    private static final int MAX = Integer.MAX_VALUE;

    public static void main(String[] args) {
        Checks c = new Checks();
        taxes(c);
        favours(c);
        pays(c);
        reminds(c);
        late(c);
        covers(c);
        earns(c);
        written(c);
        turns(c);
        entries(c);
        lines(c);
        periods(c);
        full(c);
        c.end();
    }

    private static void taxes(Checks c) {
        SlicedBills x = Checks.with("price A 33;price B 66;tax 5 19;tax 10 7;tax 20 19");
        x.begin(0, 0, 1);
        x.begin(1, 0, 1);
        c.due("7 ahead of the first TAX", x.tax(0), 0);
        x.days(5);
        x.change(0, 1);
        x.days(5);
        x.change(0, 0);
        x.days(10);
        x.change(0, 1);
        int sum = 0;
        int rate19 = 0;
        for (int i = 0; i < x.count(0); i++) {
            if (x.entry(i, 1) != 0) continue;
            sum += x.tax(i);
            if (x.entry(i, 2) == 5 || x.entry(i, 2) == 20) rate19 += x.entry(i, 7);
        }
        c.due("8 TAXES together", x.taxes(0, 19) + x.taxes(0, 7) + x.taxes(0, 0), sum);
        c.due("8 the TAXES of one RATE are those of its sum", x.taxes(0, 19), rate19 * 19 / 100);
        // DAY 5: a credit of 33 - 5 = 28, a charge of 66 - 10 = 56; DAY 20 goes on with their sum of 28.
        c.due("35 credit", x.entry(2, 7), -28);
        c.due("35 charge", x.entry(3, 7), 56);
        c.due("7 TAX of -28, cut towards 0", x.tax(2), -5);
        c.due("7 TAX of 56, up to 28", x.tax(3), 5 + 5);
        c.due("7 TAX of the first of DAY 10", x.tax(4), x.entry(4, 7) * 7 / 100);
        c.due("7 TAX of the first of DAY 20", x.tax(6), (28 + x.entry(6, 7)) * 19 / 100 - 5);
        for (int i : new int[] {-1, 8, MAX, MIN}) c.due("7 tax(" + i + ")", x.tax(i), NO);
        c.due("8 a RATE that no day has", x.taxes(0, 50), 0);
        c.due("8 RATE 0", x.taxes(1, 0), 0);
        for (int[] n : new int[][] {{0, -1}, {0, 101}, {2, 19}, {6, 19}, {-1, 19}, {MAX, 19}, {0, MIN}}) {
            c.due("8 taxes(" + n[0] + ", " + n[1] + ")", x.taxes(n[0], n[1]), NO);
        }
        // All of one RATE from the first ENTRY on: of 33, -33, 66 the sums are 33, 0, 66.
        SlicedBills z = Checks.with("price A 33;price B 66;tax 0 10");
        z.begin(0, 0, 1);
        z.change(0, 1);
        int[] due = {3, -3, 6};
        for (int i = 0; i < 3; i++) c.due("7 TAX of ENTRY " + i, z.tax(i), due[i]);
        c.due("8 TAXES of them", z.taxes(0, 10), 6);
        z.days(31);
        z.days(29);
        c.due("7 TAX of 66 behind 132", z.tax(6), 19 - 13);
        SlicedBills y = Checks.with("price A 99999;tax 0 100");
        y.begin(0, 0, 1);
        for (int s = 2; s < 60; s++) y.seats(0, 1 + s % 9);
        for (int i = 0; i < 90; i++) y.days(31);
        c.due("8 a large sum by 100", y.taxes(0, 100), y.accountIs(0, 8));
    }

    private static void favours(Checks c) {
        SlicedBills x = Checks.with("price A 3100");
        c.due("16 not begun", x.favour(0, 1), NO);
        x.begin(0, 0, 1);
        x.days(3);
        c.due("16 favour(0, 100)", x.favour(0, 100), 3000);
        int[] due = {3, 0, 3, 0, 3, 3, 0, -100, -2, -2};
        for (int w = 0; w < 10; w++) c.due("16 its ENTRY, " + w, x.entry(1, w), due[w]);
        for (int n : new int[] {0, -1, 3001, MAX, MIN}) c.due("16 favour(0, " + n + ")", x.favour(0, n), NO);
        c.due("16 favour(6, 1)", x.favour(6, 1), NO);
        c.due("16 favour(-1, 1)", x.favour(-1, 1), NO);
        c.due("16 all of it", x.favour(0, 3000), 0);
        c.due("16 nothing left", x.favour(0, 1), NO);
        SlicedBills y = Checks.with("price A 3100;rest A 1");
        y.begin(0, 0, 1);
        y.use(0, 50);
        y.days(10);
        y.giveUp(0);
        y.days(40);
        c.due("16 of an ended one", y.favour(0, 50), 1000);
        c.due("16 by the PERIOD as it is", y.entry(3, 3), 0);
    }

    private static void pays(Checks c) {
        SlicedBills x = Checks.with("price A 3100");
        c.due("17 not begun", x.pay(0, 1), -1);
        x.begin(0, 0, 1);
        c.due("17 pay(0, 1)", x.pay(0, 1), 1);
        for (int n : new int[] {0, -1, 1000000, MAX, MIN}) c.due("17 pay(0, " + n + ")", x.pay(0, n), -1);
        for (int a : new int[] {-1, 1, 6}) c.due("17 pay(" + a + ", 1)", x.pay(a, 1), -1);
        for (int i = 0; i < 99; i++) x.pay(0, 999999);
        c.due("17 PAID", x.accountIs(0, 18), 98999902);
        c.due("17 up to 99999999", x.pay(0, 999999), 99999901);
        c.due("17 more than that", x.pay(0, 99), -1);
        c.due("17 just that", x.pay(0, 98), 99999999);
        c.due("17 no more", x.pay(0, 1), -1);
        c.due("21 behind COVER", x.owes(0, 3), 99999999 - 3100);
        SlicedBills y = Checks.with("price A 3100");
        y.begin(0, 0, 1);
        y.giveUp(0);
        c.due("17 of an ended one", y.pay(0, 5), 5);
    }

    private static void reminds(Checks c) {
        SlicedBills x = Checks.with("price A 3150;fee 5");
        c.due("18 not begun", x.remind(0), -1);
        x.begin(0, 0, 1);
        x.days(14);
        c.due("18 DUE today", x.remind(0), -2);
        x.days(1);
        c.due("18 DUE yesterday", x.remind(0), 157);
        int[] due = {5, 0, 15, 0, 15, 15, 0, 157, -2, -2};
        for (int w = 0; w < 10; w++) c.due("18 its ENTRY, " + w, x.entry(1, w), due[w]);
        c.due("18 again", x.remind(0), -4);
        x.turn(1);
        c.due("18 again, though it was turned round", x.remind(0), -4);
        x.pay(0, 3150 - 157);
        c.due("18 LATE is 0 ahead of -4", x.remind(0), -2);
        for (int a : new int[] {-1, 1, 6, MAX, MIN}) c.due("18 remind(" + a + ")", x.remind(a), -1);
        SlicedBills y = Checks.with("price A 100");
        y.begin(0, 0, 1);
        y.days(15);
        c.due("18 a FEE of 0", y.remind(0), 0);
        c.due("18 it is written", y.count(0), 2);
        SlicedBills z = Checks.with("price A 99999;fee 20");
        z.begin(0, 0, 1);
        z.seats(0, 9);
        z.days(15);
        c.due("18 99999 at most", z.remind(0), 99999);
        SlicedBills w = Checks.with("price A 55555;fee 20");
        w.begin(0, 0, 1);
        w.seats(0, 9);
        w.days(15);
        c.due("18 just below that", w.remind(0), 99999);
        SlicedBills v = Checks.with("price A 3100;fee 10;price B 3100");
        v.begin(0, 0, 1);
        v.begin(1, 1, 1);
        v.days(15);
        v.remind(1);
        c.due("18 another account's FEE", v.remind(0), 310);
        v.giveUp(1);
        v.days(1);
        c.due("18 of an ended one", v.remind(1), (3100 - 3100 + 3100 * 15 / 31) / 10);
    }

    private static void late(Checks c) {
        SlicedBills x = Checks.with("price A 3100;price B 6200");
        x.begin(0, 0, 1);
        x.days(10);
        x.change(0, 1);
        x.pay(0, 100);
        c.due("19 on DAY 14", x.late(0, 14), 0);
        c.due("19 on DAY 15", x.late(0, 15), 900);
        c.due("19 on DAY 24", x.late(0, 24), 900);
        c.due("19 on DAY 25", x.late(0, 25), 900 + 4200);
        c.due("19 on DAY 3652", x.late(0, 3652), 900 + 4200);
        for (int d : new int[] {9, -1, 3653, MAX, MIN}) c.due("19 late(0, " + d + ")", x.late(0, d), NO);
        c.due("19 today", x.late(0, 10), 0);
        for (int a : new int[] {-1, 1, 6, MAX, MIN}) c.due("19 late(" + a + ", 20)", x.late(a, 20), NO);
    }

    private static void covers(Checks c) {
        SlicedBills x = Checks.with("price A 3100;rest A 1");
        c.due("21 not begun", x.owes(0, 0), -1);
        x.begin(1, 0, 1);
        x.begin(0, 0, 1);
        x.days(31);
        x.days(29);
        // Of account 0: ENTRIES 1 (3100), 2 (0), 3 (3100), 6 (0), 7 (3100).
        int[][] due = {{1000, 3, 1, 8300, 0, 2100, 3100}, {2100, 2, 3, 6200, 0, 0, 3100}, {1, 2, 3, 6199, 0, 0, 3099},
            {6199, 0, -2, 0, 0, 0, 0}, {50, 0, -2, 0, 50, 0, 0}};
        for (int[] d : due) {
            x.pay(0, d[0]);
            for (int w = 0; w < 4; w++) c.due("21 owes(0, " + w + ") behind " + d[0], x.owes(0, w), d[w + 1]);
            c.due("20 open(1) behind " + d[0], x.open(1), d[5]);
            c.due("20 open(3) behind " + d[0], x.open(3), d[6]);
        }
        c.due("20 of one of 0 cents", x.open(2), 0);
        c.due("20 of another account", x.open(0), 3100);
        c.due("21 of another account", x.owes(1, 2), 9300);
        SlicedBills y = Checks.with("price A 1;price B 2");
        y.begin(0, 0, 1);
        y.days(31);
        y.days(29);
        c.due("20 one of 1 cent", y.open(0), 1);
        y.pay(0, 1);
        int[] one = {2, 2, 2, 0};
        for (int w = 0; w < 4; w++) c.due("21 ENTRIES of 1 cent, owes(0, " + w + ")", y.owes(0, w), one[w]);
        c.due("20 one of 1 cent, covered", y.open(0), 0);
        c.due("20 one of 1 cent behind it", y.open(2), 1);
        c.due("19 of 1 cent", y.late(0, 60), 1);
        c.due("19 of 1 cent, two of them", y.late(0, 75), 2);
        y.pay(0, 1);
        c.due("20 covered by 1 cent each", y.open(4), 1);
        x.favour(0, 70);
        c.due("21 a favour covers too", x.owes(0, 3), 120);
        c.due("20 of a favour", x.open(x.count(0) - 1), 0);
        for (int i : new int[] {-1, x.count(0), MAX, MIN}) c.due("20 open(" + i + ")", x.open(i), NO);
        for (int w : new int[] {-1, 4, MAX, MIN}) c.due("21 owes(0, " + w + ")", x.owes(0, w), -1);
        for (int a : new int[] {-1, 2, 6}) c.due("21 owes(" + a + ", 0)", x.owes(a, 0), -1);
    }

    private static void earns(Checks c) {
        SlicedBills x = Checks.with("price A 100;price B 50;rest A 2;fee 20");
        x.begin(0, 0, 1);
        c.due("22 by DAY 0", x.earned(0, 0), 0);
        c.due("22 by DAY 1", x.earned(0, 1), 3);
        c.due("22 by DAY 30", x.earned(0, 30), 96);
        c.due("22 by DAY 31", x.earned(0, 31), 100);
        c.due("22 by DAY 3653", x.earned(0, 3653), 100);
        x.use(0, 9);
        x.days(10);
        x.change(0, 1);
        // The credit is -68, the charge 34, both from DAY 10 to 31.
        c.due("35 credit", x.entry(1, 7), -68);
        c.due("35 charge", x.entry(2, 7), 34);
        c.due("22 by DAY 10", x.earned(0, 10), 32);
        c.due("22 each cut towards 0", x.earned(0, 11), 35 - 3 + 1);
        c.due("22 by DAY 20", x.earned(0, 20), 64 - 32 + 16);
        x.turn(2);
        c.due("22 one of KIND 4 as it is written", x.earned(0, 10), 32);
        c.due("22 all of it behind", x.earned(0, 11), 33 - 34);
        x.favour(0, 2);
        c.due("22 a favour, too", x.earned(0, 11), -3);
        x.days(21);
        c.due("22 usage is not earned by the day on which it is written", x.earned(0, 31), 100 - 68 + 34 - 34 - 2);
        c.due("22 usage behind that", x.earned(0, 32), 30 + 1);
        for (int d : new int[] {-1, 3654, MAX, MIN}) c.due("22 earned(0, " + d + ")", x.earned(0, d), NO);
        for (int a : new int[] {-1, 1, 6, MAX, MIN}) c.due("22 earned(" + a + ", 0)", x.earned(a, 0), NO);
    }

    private static void written(Checks c) {
        SlicedBills x = Checks.with("price A 3100;price B 31");
        x.begin(0, 0, 1);
        x.days(1);
        x.begin(1, 1, 1);
        x.days(2);
        x.favour(0, 7);
        c.due("23 written(0, 0)", x.written(0, 0), 3100);
        c.due("23 written(0, 1)", x.written(0, 1), 3130);
        c.due("23 written(1, 3)", x.written(1, 3), 23);
        c.due("23 written(2, 2)", x.written(2, 2), 0);
        c.due("23 written(3, 3)", x.written(3, 3), -7);
        c.due("23 written(0, 3652)", x.written(0, 3652), 3123);
        for (int[] n : new int[][] {{1, 0}, {-1, 0}, {0, 3653}, {3653, 3653}, {MIN, MAX}, {0, MAX}}) {
            c.due("23 written(" + n[0] + ", " + n[1] + ")", x.written(n[0], n[1]), NO);
        }
    }

    private static void turns(Checks c) {
        SlicedBills x = Checks.with("price A 3100;price B 6200");
        c.due("24 no ENTRY", x.turn(0), -1);
        x.begin(0, 0, 1);
        x.days(10);
        x.change(0, 1);
        c.due("24 turn(2)", x.turn(2), 3);
        int[] due = {4, 0, 10, 0, 10, 31, 1, -4200, 2, -2};
        for (int w = 0; w < 10; w++) c.due("24 its ENTRY, " + w, x.entry(3, w), due[w]);
        c.due("35 turned round by", x.entry(2, 9), 3);
        c.due("24 again", x.turn(2), -2);
        c.due("24 of KIND 4", x.turn(3), -2);
        c.due("24 ALL would be below 0", x.turn(0), -4);
        c.due("24 a credit", x.turn(1), 4);
        c.due("35 its cents", x.entry(4, 7), 2100);
        c.due("24 ALL of 0 is not below", x.turn(0), 5);
        c.due("30 ALL", x.accountIs(0, 8), 0);
        for (int i : new int[] {-1, 6, MAX, MIN}) c.due("24 turn(" + i + ")", x.turn(i), -1);
        x.change(0, 0);
        c.due("30 ALL below 0", x.accountIs(0, 8), -2100);
        c.due("24 ALL below 0 still", x.turn(7), -4);
        c.due("24 ALL not below 0 any more", x.turn(6), 8);
    }

    private static void entries(Checks c) {
        SlicedBills x = Checks.with("price A 3100");
        x.days(3);
        x.begin(2, 0, 15);
        int[] due = {0, 2, 3, 0, 3, 14, 0, 1100, -2, -2};
        for (int w = 0; w < 10; w++) c.due("35 entry(0, " + w + ")", x.entry(0, w), due[w]);
        for (int w : new int[] {-1, 10, MAX, MIN}) c.due("35 entry(0, " + w + ")", x.entry(0, w), NO);
        for (int i : new int[] {-1, 1, MAX, MIN}) c.due("35 entry(" + i + ", 0)", x.entry(i, 0), NO);
    }

    private static void line(Checks c, SlicedBills x, int entry, String due) {
        c.due("36 length of " + due, x.line(entry, -1), due.length());
        for (int i = 0; i < due.length(); i++) c.due("36 byte " + i + " of " + due, x.line(entry, i), due.charAt(i));
        c.due("36 behind " + due, x.line(entry, due.length()), -4);
        c.due("36 far behind " + due, x.line(entry, MAX), -4);
        c.due("36 below NONE", x.line(entry, -2), -9);
        c.due("36 far below NONE", x.line(entry, MIN), -9);
    }

    private static void lines(Checks c) {
        SlicedBills x = Checks.with("price A 3100;price F 99999;rest A 5;fee 20;pause A 1");
        x.begin(0, 0, 1);
        x.days(15);
        x.remind(0);
        x.favour(0, 5);
        x.turn(1);
        x.use(0, 1);
        x.days(400);
        x.days(400);
        int last = x.count(0);
        x.begin(1, 5, 31);
        x.seats(1, 9);
        x.change(0, 5);
        x.pause(0, true);
        line(c, x, 0, "P0 2024-01-01 to 2024-02-01 A charge 31.00");
        line(c, x, 1, "P0 2024-01-16 to 2024-01-16 A fee 6.20");
        line(c, x, 2, "P0 2024-01-16 to 2024-01-16 A favour -0.05");
        line(c, x, 3, "P0 2024-01-16 to 2024-01-16 A turned -6.20");
        line(c, x, 4, "P0 2024-01-01 to 2024-02-01 A usage 0.05");
        line(c, x, 6, "P1 2024-02-01 to 2024-03-01 A usage 0.00");
        line(c, x, 5 + 2 * 25, "P26 2026-03-01 to 2026-04-01 A charge 31.00");
        c.due("45 TODAY", x.count(1), 815);
        line(c, x, last, "P0 2026-03-26 to 2026-03-31 F charge 161.29");
        line(c, x, last + 2, "P0 2026-03-26 to 2026-03-31 F charge 1451.60");
        line(c, x, last + 3, "P26 2026-03-26 to 2026-04-01 A credit -6.00");
        line(c, x, last + 6, "P26 2026-03-26 to 2026-04-01 F charge 0.00");
        int[] cents = {1, 9, 10, 99, 100, 999, 1000, 1001, 9999, 10000, 99999};
        String[] euros = {"0.01", "0.09", "0.10", "0.99", "1.00", "9.99", "10.00", "10.01", "99.99", "100.00", "999.99"};
        for (int i = 0; i < cents.length; i++) {
            SlicedBills y = Checks.with("price E " + cents[i]);
            y.begin(5, 4, 1);
            line(c, y, 0, "P0 2024-01-01 to 2024-02-01 E charge " + euros[i]);
        }
        for (int i : new int[] {-1, x.count(0), MAX, MIN}) {
            c.due("36 line(" + i + ", 0)", x.line(i, 0), -1);
            c.due("36 NONE ahead of -9", x.line(i, -5), -1);
        }
    }

    private static void periods(Checks c) {
        SlicedBills x = Checks.with("price A 3100;rest A 2;price B 6200");
        x.begin(0, 0, 1);
        x.begin(1, 1, 1);
        x.use(0, 5);
        x.days(31);
        x.favour(0, 3);
        c.due("37 PERIOD 0", x.period(0, 0), 3110);
        c.due("37 PERIOD 1", x.period(0, 1), 3097);
        c.due("37 PERIOD 199", x.period(0, 199), 0);
        c.due("37 of another account", x.period(1, 0), 6200);
        x.turn(0);
        c.due("37 one turned round is of the same PERIOD", x.period(0, 0), 10);
        for (int[] n : new int[][] {{0, -1}, {0, 200}, {2, 0}, {6, 0}, {-1, 0}, {0, MAX}, {MIN, 0}}) {
            c.due("37 period(" + n[0] + ", " + n[1] + ")", x.period(n[0], n[1]), NO);
        }
    }

    private static void full(Checks c) {
        SlicedBills x = Checks.with("price A 3100;price B 6200;fee 5");
        x.begin(0, 0, 1);
        x.begin(1, 0, 1);
        for (int i = 0; i < 198; i++) x.change(0, 1 - i % 2);
        x.days(15);
        c.due("45 ENTRIES", x.count(0), 398);
        x.remind(1);
        x.favour(1, 5);
        c.due("45 ENTRIES", x.count(0), 400);
        c.due("16 400 ENTRIES", x.favour(0, 1), NO - 1);
        c.due("16 more than ALL ahead", x.favour(0, 99999999), NO);
        c.due("18 400 ENTRIES", x.remind(0), -3);
        c.due("18 400 ENTRIES ahead of -4", x.remind(1), -3);
        c.due("18 NONE ahead", x.remind(2), -1);
        c.due("24 400 ENTRIES", x.turn(0), -3);
        x.pay(0, 999999);
        c.due("18 LATE is 0 ahead of 400 ENTRIES", x.remind(0), -2);
        c.due("24 no such ENTRY ahead", x.turn(400), -1);
        SlicedBills z = Checks.with("price A 3100;price B 6200;fee 5");
        z.begin(0, 0, 1);
        for (int i = 0; i < 199; i++) z.change(0, 1 - i % 2);
        z.keep();
        c.due("16 the 400th ENTRY", z.favour(0, 1), 6199);
        z.undo();
        z.days(15);
        c.due("18 the 400th ENTRY", z.remind(0), 310);
        SlicedBills y = Checks.with("price A 3100;price B 6200;fee 5");
        y.begin(0, 0, 1);
        for (int i = 0; i < 199; i++) y.change(0, 1 - i % 2);
        c.due("24 the 400th ENTRY", y.turn(397), 399);
        c.due("24 it is turned round ahead of 400 ENTRIES", y.turn(397), -2);
        c.due("24 400 ENTRIES ahead of -4", y.turn(396), -3);
        c.due("36 the last one", y.line(399, 0), 'P');
        c.due("7 the last one", y.tax(399), 0);
    }
}
