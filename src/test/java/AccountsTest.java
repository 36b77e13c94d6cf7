/** Promises 1, 4 to 6, 9 to 11, 14, 15 and 30: a new object, begin, change, seats, pause, giveUp, move, use, days, accountIs. */
public final class AccountsTest {
    private static final int NO = Checks.NO;
    private static final int MIN = Integer.MIN_VALUE;
    private static final int MAX = Integer.MAX_VALUE;

    public static void main(String[] args) {
        Checks c = new Checks();
        fresh(c);
        begins(c);
        changes(c);
        seats(c);
        pauses(c);
        givesUp(c);
        moves(c);
        uses(c);
        daysPass(c);
        daysStop(c);
        full(c);
        asked(c);
        c.end();
    }

    private static void fresh(Checks c) {
        SlicedBills x = new SlicedBills();
        c.due("1 ENTRIES", x.count(0), 0);
        c.due("1 TODAY", x.count(1), 0);
        c.due("1 bytes", x.count(2), 0);
        c.due("1 CLAUSES", x.count(3), 0);
        for (int p = 0; p < 6; p++) for (int w = 0; w < 6; w++) c.due("1 plan(" + p + ", " + w + ")", x.plan(p, w), 0);
        for (int w = 0; w < 8; w++) c.due("1 billIs(" + w + ")", x.billIs(w), 0);
        for (int a = 0; a < 6; a++) c.due("1 accountIs(" + a + ", 0)", x.accountIs(a, 0), NO);
        c.due("1 undo", x.undo(), false);
    }

    private static void begins(Checks c) {
        SlicedBills x = Checks.with("price A 3100;less 50 1");
        int[][] none = {{-1, 0, 1}, {6, 0, 1}, {0, -1, 1}, {0, 6, 1}, {0, 0, 0}, {0, 0, 32}, {MIN, 0, 1}, {0, MAX, 1}, {0, 0, MIN}};
        for (int[] n : none) c.due("4 begin(" + n[0] + ", " + n[1] + ", " + n[2] + ")", x.begin(n[0], n[1], n[2]), -1);
        c.due("4 begin on a TURN, LESS", x.begin(0, 0, 1), 1550);
        c.due("4 begin again", x.begin(0, 1, 2), -4);
        c.due("4 NONE ahead of -4", x.begin(0, 6, 2), -1);
        x.days(30);
        // DAY 30 is January 31st: by ANCHOR 31 a SPAN of 29 days begins, by ANCHOR 1 its last day is left.
        c.due("4 begin at ANCHOR 31", x.begin(1, 0, 31), 1550);
        c.due("30 end", x.accountIs(1, 4), 59);
        c.due("4 begin with a day left", x.begin(2, 0, 1), 1550 - 1550 * 30 / 31);
        c.due("30 first day", x.accountIs(2, 3), 30);
        c.due("30 end", x.accountIs(2, 4), 31);
        c.due("30 LENGTH", x.accountIs(2, 5), 31);
        c.due("26 begun", x.billIs(4), 7);
        x.giveUp(1);
        c.due("4 begin behind the end", x.begin(1, 0, 31), -4);
        SlicedBills y = new SlicedBills();
        for (int i = 0; i < 9; i++) y.days(400);
        y.days(20);
        c.due("45 TODAY", y.count(1), 3620);
        c.due("4 a PERIOD to DAY 3652 by ANCHOR 31", y.begin(0, 0, 31), 0);
        c.due("30 its end", y.accountIs(0, 4), 3621);
        c.due("4 a PERIOD to DAY 3622", y.begin(1, 0, 1), 0);
        y.days(1);
        c.due("30 the next end", y.accountIs(0, 4), 3652);
        c.due("4 a PERIOD to DAY 3652", y.begin(2, 0, 31), 0);
        y.days(1);
        c.due("45 no day passes, as a PERIOD would end behind DAY 3652", y.count(1), 3621);
        SlicedBills z = new SlicedBills();
        for (int i = 0; i < 9; i++) z.days(400);
        z.days(22);
        c.due("4 a PERIOD to DAY 3653", z.begin(0, 0, 1), -5);
        c.due("4 -4 is not, -5 is", z.begin(0, 0, 1), -5);
        c.due("4 a PERIOD to DAY 3651", z.begin(0, 0, 30), 0);
        c.due("4 -4 ahead of -5", z.begin(0, 0, 1), -4);
    }

    private static void changes(Checks c) {
        SlicedBills x = Checks.with("price A 3100;price B 6200;price C 100");
        x.begin(0, 0, 1);
        c.due("5 on its first day", x.change(0, 1), 3100);
        x.days(10);
        c.due("5 in the middle", x.change(0, 0), -2100);
        c.due("30 ALL", x.accountIs(0, 8), 4100);
        c.due("35 the credit's cents", x.entry(3, 7), -4200);
        c.due("35 the credit's PLAN", x.entry(3, 6), 1);
        c.due("35 the credit's from", x.entry(3, 4), 10);
        c.due("35 the credit's to", x.entry(3, 5), 31);
        c.due("35 the charge's cents", x.entry(4, 7), 2100);
        c.due("35 the charge's PLAN", x.entry(4, 6), 0);
        c.due("35 the charge's KIND", x.entry(4, 0), 0);
        int[][] none = {{0, 0}, {0, 6}, {0, -1}, {1, 1}, {6, 1}, {-1, 1}, {MAX, MAX}, {0, MIN}};
        for (int[] n : none) c.due("5 change(" + n[0] + ", " + n[1] + ")", x.change(n[0], n[1]), NO);
        c.due("5 cut", x.change(0, 2), (100 - 100 * 10 / 31) - 2100);
        c.due("45 two ENTRIES each", x.count(0), 7);
        x.giveUp(0);
        c.due("5 ended", x.change(0, 1), NO);
    }

    private static void seats(Checks c) {
        SlicedBills x = Checks.with("price A 3100;bulk A 3 10;bulk A 5 20;less 50 1");
        x.begin(0, 0, 1);
        c.due("30 one SEAT at first", x.accountIs(0, 19), 1);
        c.due("6 two SEATS", x.seats(0, 2), 1550);
        c.due("6 three SEATS", x.seats(0, 3), (9300 - 930) / 2 - 3100);
        c.due("6 four SEATS", x.seats(0, 4), (12400 - 1240) / 2 - 4185);
        c.due("6 five SEATS", x.seats(0, 5), (15500 - 3100) / 2 - 5580);
        c.due("6 nine SEATS", x.seats(0, 9), (27900 - 5580) / 2 - 6200);
        c.due("30 WORTH", x.accountIs(0, 6), 11160);
        x.days(31);
        c.due("30 WORTH without LESS", x.accountIs(0, 6), 22320);
        c.due("6 one SEAT", x.seats(0, 1), 3100 - 22320);
        int[][] none = {{0, 1}, {0, 0}, {0, 10}, {0, -1}, {1, 2}, {6, 2}, {-1, 2}, {0, MAX}, {MIN, 2}};
        for (int[] n : none) c.due("6 seats(" + n[0] + ", " + n[1] + ")", x.seats(n[0], n[1]), NO);
        x.giveUp(0);
        c.due("6 ended", x.seats(0, 2), NO);
        // Each cut by itself: 999 less 7 of a hundred (69), that less 33 of a hundred (306), that by 50 of a hundred.
        SlicedBills y = Checks.with("price A 333;bulk A 3 7;less 33 1;pause A 50");
        y.begin(0, 0, 1);
        y.seats(0, 3);
        c.due("30 WORTH", y.accountIs(0, 6), 930 - 306);
        y.pause(0, true);
        c.due("30 WORTH of a PAUSED one", y.accountIs(0, 6), 312);
    }

    private static void pauses(Checks c) {
        SlicedBills x = Checks.with("price A 3100;pause A 25;price B 6200");
        x.begin(0, 0, 1);
        c.due("9 not PAUSED yet", x.pause(0, false), NO);
        x.days(10);
        c.due("9 PAUSE", x.pause(0, true), 525 - 2100 + 775 - 775 * 10 / 31 - 525);
        c.due("30 PAUSED", x.accountIs(0, 9), 1);
        c.due("26 PAUSED", x.billIs(6), 1);
        c.due("9 PAUSED already", x.pause(0, true), NO);
        c.due("9 a PLAN without PAUSE costs nothing", x.change(0, 1), -(775 - 775 * 10 / 31));
        x.days(21);
        c.due("30 the next PERIOD is PAUSED", x.accountIs(0, 6), 0);
        c.due("9 GO ON", x.pause(0, false), 6200);
        c.due("30 PAUSED no more", x.accountIs(0, 9), 0);
        c.due("9 pause(1, true)", x.pause(1, true), NO);
        c.due("9 pause(6, true)", x.pause(6, true), NO);
        c.due("9 pause(-1, true)", x.pause(-1, true), NO);
        x.pause(0, true);
        x.giveUp(0);
        c.due("9 ended", x.pause(0, false), NO);
        c.due("30 ended: as it was then", x.accountIs(0, 9), 1);
    }

    private static void givesUp(Checks c) {
        SlicedBills x = Checks.with("price A 3100;rest A 2");
        x.begin(0, 0, 1);
        x.use(0, 7);
        x.days(10);
        c.due("10 giveUp", x.giveUp(0), -2100 + 14);
        c.due("10 credit ahead of usage", x.entry(1, 0), 1);
        c.due("10 usage", x.entry(2, 0), 2);
        c.due("10 usage from", x.entry(2, 4), 0);
        c.due("10 usage to", x.entry(2, 5), 10);
        c.due("10 usage cents", x.entry(2, 7), 14);
        c.due("10 two ENTRIES", x.count(0), 3);
        c.due("30 ended", x.accountIs(0, 10), 1);
        c.due("30 UNITS", x.accountIs(0, 7), 0);
        c.due("30 end as it was", x.accountIs(0, 4), 31);
        c.due("26 begun", x.billIs(4), 1);
        c.due("26 ended", x.billIs(5), 1);
        for (int a : new int[] {0, 1, 6, -1, MAX, MIN}) c.due("10 giveUp(" + a + ")", x.giveUp(a), NO);
        x.days(60);
        c.due("15 nothing turns behind the end", x.count(0), 3);
        c.due("30 PERIOD as it was", x.accountIs(0, 2), 0);
    }

    private static void moves(Checks c) {
        SlicedBills x = Checks.with("price A 3100;rest A 2;less 50 1");
        x.begin(0, 0, 1);
        x.use(0, 5);
        x.days(10);
        // A credit of 21 days at half, a usage, then 4 of 31 days from DAY 10 to 14 by the SPAN from December 15th on.
        c.due("11 move", x.move(0, 15), -1050 + 10 + 400);
        int[][] due = {{0, 1, 0, 10, 31, -1050}, {0, 2, 0, 0, 10, 10}, {0, 0, 1, 10, 14, 400}};
        for (int i = 0; i < 3; i++) {
            c.due("11 KIND of " + (i + 1), x.entry(i + 1, 0), due[i][1]);
            c.due("11 PERIOD of " + (i + 1), x.entry(i + 1, 3), due[i][2]);
            c.due("11 from of " + (i + 1), x.entry(i + 1, 4), due[i][3]);
            c.due("11 to of " + (i + 1), x.entry(i + 1, 5), due[i][4]);
            c.due("11 cents of " + (i + 1), x.entry(i + 1, 7), due[i][5]);
        }
        c.due("30 ANCHOR", x.accountIs(0, 1), 15);
        c.due("30 PERIOD", x.accountIs(0, 2), 1);
        c.due("30 first day", x.accountIs(0, 3), 10);
        c.due("30 end", x.accountIs(0, 4), 14);
        c.due("30 LENGTH", x.accountIs(0, 5), 31);
        c.due("30 UNITS", x.accountIs(0, 7), 0);
        int[][] none = {{0, 15}, {0, 0}, {0, 32}, {1, 5}, {6, 5}, {-1, 5}, {0, MIN}, {MAX, 5}};
        for (int[] n : none) c.due("11 move(" + n[0] + ", " + n[1] + ")", x.move(n[0], n[1]), NO);
        c.due("11 to a TURN of today", x.move(0, 11), -400 + 3100);
        c.due("30 end", x.accountIs(0, 4), 41);
        x.giveUp(0);
        c.due("11 ended", x.move(0, 5), NO);
        SlicedBills y = new SlicedBills();
        for (int i = 0; i < 9; i++) y.days(400);
        y.days(25);
        y.begin(0, 0, 28);
        c.due("11 a PERIOD to DAY 3653", y.move(0, 1), NO - 2);
        c.due("11 a PERIOD to DAY 3652", y.move(0, 31), 0);
        c.due("11 its own ANCHOR ahead", y.move(0, 31), NO);
    }

    private static void uses(Checks c) {
        SlicedBills x = Checks.with("price A 100");
        c.due("14 not begun", x.use(0, 1), -1);
        x.begin(0, 0, 1);
        c.due("14 use(0, 5)", x.use(0, 5), 5);
        c.due("14 use(0, 0)", x.use(0, 0), 5);
        c.due("14 use(0, 9994)", x.use(0, 9994), 9999);
        c.due("14 use(0, 1)", x.use(0, 1), -3);
        c.due("14 use(0, MAX)", x.use(0, MAX), -3);
        c.due("30 UNITS", x.accountIs(0, 7), 9999);
        for (int[] n : new int[][] {{0, -1}, {0, MIN}, {6, 1}, {-1, 1}, {1, 1}}) c.due("14 use(" + n[0] + ", " + n[1] + ")", x.use(n[0], n[1]), -1);
        x.pause(0, true);
        c.due("14 PAUSED", x.use(0, 0), -2);
        c.due("14 PAUSED ahead of too many", x.use(0, MAX), -2);
        c.due("14 NONE ahead of PAUSED", x.use(0, -1), -1);
        x.giveUp(0);
        c.due("14 ended", x.use(0, 1), -1);
    }

    private static void daysPass(Checks c) {
        SlicedBills x = Checks.with("price A 3100;free A 1;rest A 2;price B 2900;price C 300;less 50 2");
        for (int n : new int[] {0, -1, 401, MAX, MIN}) c.due("15 days(" + n + ")", x.days(n), -1);
        x.begin(1, 0, 1);
        x.begin(0, 1, 1);
        x.use(1, 6);
        c.due("15 days(30)", x.days(30), 30);
        c.due("15 nothing turns yet", x.count(0), 2);
        c.due("15 days(1)", x.days(1), 1);
        c.due("15 by number, two ENTRIES each", x.count(0), 6);
        int[][] due = {{0, 2, 0, 0, 31, 0}, {0, 0, 1, 31, 60, 1450}, {1, 2, 0, 0, 31, 10}, {1, 0, 1, 31, 60, 1550}};
        for (int i = 0; i < 4; i++) {
            c.due("15 account of " + (i + 2), x.entry(i + 2, 1), due[i][0]);
            c.due("15 KIND of " + (i + 2), x.entry(i + 2, 0), due[i][1]);
            c.due("15 PERIOD of " + (i + 2), x.entry(i + 2, 3), due[i][2]);
            c.due("15 from of " + (i + 2), x.entry(i + 2, 4), due[i][3]);
            c.due("15 to of " + (i + 2), x.entry(i + 2, 5), due[i][4]);
            c.due("15 cents of " + (i + 2), x.entry(i + 2, 7), due[i][5]);
            c.due("15 day of " + (i + 2), x.entry(i + 2, 2), 31);
        }
        c.due("30 UNITS", x.accountIs(1, 7), 0);
        x.days(29);
        c.due("15 LESS ends with its PERIODS", x.entry(9, 7), 3100);
    }

    private static void daysStop(Checks c) {
        SlicedBills x = new SlicedBills();
        for (int i = 0; i < 9; i++) c.due("15 days(400)", x.days(400), 400);
        c.due("15 days(400) to DAY 3652", x.days(400), 52);
        c.due("15 days(1) on DAY 3652", x.days(1), 0);
        c.due("15 TODAY", x.count(1), 3652);
        // ANCHOR 31: the last PERIOD ends on DAY 3652, so the day ahead of that is the last.
        SlicedBills y = new SlicedBills();
        y.begin(0, 0, 31);
        for (int i = 0; i < 9; i++) y.days(400);
        c.due("15 days(400) to DAY 3651", y.days(400), 51);
        c.due("30 PERIOD", y.accountIs(0, 2), 119);
        y.giveUp(0);
        c.due("15 days(400) to DAY 3652", y.days(400), 1);
    }

    private static SlicedBills filled(int entries) {
        SlicedBills x = Checks.with("price A 3100;price B 6200;fee 5");
        for (int a = 0; a < 2 - entries % 2; a++) x.begin(a, 0, 1);
        for (int i = 0; x.count(0) < entries; i++) x.change(0, 1 - i % 2);
        return x;
    }

    private static void full(Checks c) {
        SlicedBills x = filled(400);
        c.due("45 ENTRIES", x.count(0), 400);
        c.due("4 400 ENTRIES", x.begin(2, 0, 1), -3);
        c.due("4 -3 ahead of -4", x.begin(0, 0, 1), -3);
        c.due("4 NONE ahead of -3", x.begin(6, 0, 1), -1);
        SlicedBills y = filled(399);
        c.due("5 399 ENTRIES", y.change(0, 2), NO - 1);
        c.due("5 its own PLAN ahead", y.change(0, y.accountIs(0, 0)), NO);
        c.due("6 399 ENTRIES", y.seats(0, 2), NO - 1);
        c.due("6 as many as it has ahead", y.seats(0, 1), NO);
        c.due("9 399 ENTRIES", y.pause(0, true), NO - 1);
        c.due("9 so already ahead", y.pause(0, false), NO);
        c.due("10 399 ENTRIES", y.giveUp(0), NO - 1);
        c.due("11 399 ENTRIES", y.move(0, 5), NO - 1);
        c.due("15 till there would be 401", y.days(400), 30);
        c.due("4 the 400th ENTRY", y.begin(2, 2, 1), 0);
        SlicedBills z = filled(398);
        c.due("11 398 ENTRIES", z.move(0, 5), NO - 1);
        c.due("15 two accounts turn, 398 ENTRIES", z.days(31), 30);
        c.due("10 398 ENTRIES", z.giveUp(0) > NO, true);
        SlicedBills w = filled(397);
        c.due("11 397 ENTRIES", w.move(0, 2) > NO, true);
        c.due("45 ENTRIES", w.count(0), 400);
        SlicedBills u = filled(398);
        c.due("6 398 ENTRIES", u.seats(0, 2) > NO, true);
        c.due("45 ENTRIES", u.count(0), 400);
        SlicedBills t = filled(398);
        c.due("9 398 ENTRIES", t.pause(0, true) > NO, true);
        c.due("45 ENTRIES", t.count(0), 400);
        SlicedBills s = filled(396);
        c.due("15 two accounts turn, 396 ENTRIES", s.days(31), 31);
        c.due("45 ENTRIES", s.count(0), 400);
        c.due("15 not once more", s.days(400), 28);
        SlicedBills v = filled(398);
        c.due("5 398 ENTRIES", v.change(0, 2) > NO, true);
        c.due("45 ENTRIES", v.count(0), 400);
    }

    private static void asked(Checks c) {
        SlicedBills x = Checks.with("price A 3100;rest A 3;fee 10");
        x.begin(0, 0, 1);
        x.use(0, 5);
        x.days(31);
        x.use(0, 4);
        x.remind(0);
        x.favour(0, 15);
        x.turn(1);
        x.pay(0, 77);
        x.seats(0, 2);
        int fee = x.entry(3, 7);
        c.due("18 FEE", fee, 310);
        int[] due = {0, 1, 1, 31, 60, 29, 6200, 4, 3100 + 15 + 3100 + 310 - 15 - 15 + 3100, 0, 0, 8, 3100 + 3100 + 6200, -3100, 15, -15,
            -15, 310, 77, 2};
        for (int w = 0; w < 20; w++) c.due("30 accountIs(0, " + w + ")", x.accountIs(0, w), due[w]);
        for (int w : new int[] {-1, 20, MAX, MIN}) c.due("30 accountIs(0, " + w + ")", x.accountIs(0, w), NO);
        for (int a : new int[] {-1, 1, 6, MAX, MIN}) c.due("30 accountIs(" + a + ", 0)", x.accountIs(a, 0), NO);
        // Another account's ENTRIES do not count.
        x.begin(1, 0, 1);
        c.due("30 ENTRIES of 0", x.accountIs(0, 11), 8);
        c.due("30 ENTRIES of 1", x.accountIs(1, 11), 1);
        c.due("30 ALL of 1", x.accountIs(1, 8), 3100);
        // UNITS of a PAUSED account are counted when its PERIOD ends.
        x.pause(0, true);
        x.days(29);
        c.due("30 usages", x.accountIs(0, 14), 15 + 12);
    }
}
