/** Promises 38 to 41: quote, best, ahead, when. */
public final class ForecastTest {
    private static final int NO = Checks.NO;
    private static final int MIN = Integer.MIN_VALUE;
    private static final int MAX = Integer.MAX_VALUE;

    public static void main(String[] args) {
        Checks c = new Checks();
        quotes(c);
        best(c);
        ahead(c);
        when(c);
        c.end();
    }

    private static SlicedBills begun() {
        SlicedBills x = Checks.with("price A 3100;price B 6200;price C 3100;price D 100;pause A 50;pause B 10;rest A 2;bulk B 2 50;less 10 1");
        x.begin(0, 0, 1);
        return x;
    }

    private static void quotes(Checks c) {
        SlicedBills x = begun();
        x.days(10);
        c.due("38 quote(0, 1, 10)", x.quote(0, 1, 10), 3780 - 1890);
        c.due("38 quote(0, 1, 30)", x.quote(0, 1, 30), 180 - 90);
        c.due("38 its own PLAN", x.quote(0, 0, 10), 0);
        c.due("38 a PLAN of the same price", x.quote(0, 2, 10), 0);
        c.due("38 cut", x.quote(0, 3, 20), 90 - 90 * 20 / 31 - 990);
        int[][] none = {{0, 1, 9}, {0, 1, 31}, {0, 1, -1}, {0, 6, 10}, {0, -1, 10}, {1, 1, 10}, {6, 1, 10}, {-1, 1, 10}, {0, 1, MAX}, {0, 1, MIN}};
        for (int[] n : none) c.due("38 quote(" + n[0] + ", " + n[1] + ", " + n[2] + ")", x.quote(n[0], n[1], n[2]), NO);
        c.due("38 what it was, is done", x.change(0, 1), 1890);
        x.seats(0, 2);
        x.pause(0, true);
        c.due("38 of SEATS, PAUSED", x.quote(0, 0, 10), x.change(0, 0));
        c.due("38 nothing is done by it", x.accountIs(0, 0), 0);
        x.giveUp(0);
        c.due("38 ended", x.quote(0, 1, 10), NO);
        SlicedBills y = begun();
        for (int i = 0; i < 199; i++) y.change(0, 1 + i % 2);
        c.due("45 ENTRIES", y.count(0), 399);
        c.due("38 with 399 ENTRIES", y.quote(0, 0, 0), -2790);
    }

    private static void best(Checks c) {
        SlicedBills x = begun();
        x.days(10);
        c.due("39 dearer: on the last day", x.best(0, 1, 0), 30);
        c.due("39 dearer: how much", x.best(0, 1, 1), 90);
        c.due("39 cheaper: today", x.best(0, 3, 0), 10);
        c.due("39 cheaper: how much", x.best(0, 3, 1), 90 - 90 * 10 / 31 - 1890);
        c.due("39 of like ones the first", x.best(0, 2, 0), 10);
        c.due("39 of like ones the first, its own", x.best(0, 0, 0), 10);
        c.due("39 how much, its own", x.best(0, 0, 1), 0);
        c.due("39 the PLAN, of like ones the lowest", x.best(0, 3, 2), 4);
        c.due("39 plan is not looked at", x.best(0, 0, 2), 4);
        int[][] none = {{0, 6, 2}, {0, -1, 2}, {0, 6, 0}, {0, 1, 3}, {0, 1, -1}, {1, 1, 0}, {6, 1, 0}, {-1, 1, 0}, {0, 1, MAX}, {0, MIN, 0}};
        for (int[] n : none) c.due("39 best(" + n[0] + ", " + n[1] + ", " + n[2] + ")", x.best(n[0], n[1], n[2]), NO);
        x.giveUp(0);
        c.due("39 ended", x.best(0, 1, 0), NO);
        SlicedBills u = Checks.with("price A 30;price B 10;price C 20");
        u.begin(0, 0, 1);
        c.due("39 the lowest of the like ones", u.best(0, 0, 2), 3);
        SlicedBills v = Checks.with("price A 30;price B 10;price C 20;price D 30;price E 30;price F 30");
        v.begin(0, 0, 1);
        c.due("39 PLAN B", v.best(0, 0, 2), 1);
        // By 31 days 1 cent is 0 till the last day: the first day has the 1, all the others too.
        SlicedBills w = Checks.with("price A 1;price B 0;price C 2");
        w.days(29);
        w.begin(0, 0, 1);
        c.due("39 two days are left", w.best(0, 2, 0), 29);
        c.due("39 how much", w.best(0, 2, 1), w.quote(0, 2, 29));
        SlicedBills y = Checks.with("price A 10;price B 20;price C 30;price D 40;price E 50;price F 60");
        y.begin(0, 3, 1);
        c.due("39 the least", y.best(0, 5, 2), 0);
        // So few cents are cut to many like QUOTES.
        SlicedBills z = Checks.with("price A 5;price B 7");
        z.begin(0, 0, 1);
        c.due("39 by cents", z.best(0, 1, 1), least(z, 1));
        c.due("39 the first of the least", z.quote(0, 1, z.best(0, 1, 0)), least(z, 1));
        for (int d = 0; d < z.best(0, 1, 0); d++) c.due("39 none ahead is as low", z.quote(0, 1, d) > least(z, 1), true);
    }

    private static int least(SlicedBills x, int plan) {
        int least = MAX;
        for (int d = 0; d < 31; d++) least = Math.min(least, x.quote(0, plan, d));
        return least;
    }

    private static void ahead(Checks c) {
        SlicedBills x = begun();
        x.use(0, 5);
        x.pay(0, 1000);
        c.due("40 ahead(0, 0)", x.ahead(0, 0), 2790);
        c.due("40 ahead(0, 1)", x.ahead(0, 1), 2790);
        c.due("40 ahead(0, 30)", x.ahead(0, 30), 2790);
        c.due("40 ahead(0, 31)", x.ahead(0, 31), 2790 + 10 + 3100);
        c.due("40 ahead(0, 60)", x.ahead(0, 60), 2790 + 10 + 6200);
        c.due("40 ahead(0, 400)", x.ahead(0, 400), 2790 + 10 + 13 * 3100);
        c.due("40 nothing stays, TODAY", x.count(1), 0);
        c.due("40 nothing stays, ENTRIES", x.count(0), 1);
        c.due("40 nothing stays, UNITS", x.accountIs(0, 7), 5);
        for (int n : new int[] {-1, 401, MAX, MIN}) c.due("40 ahead(0, " + n + ")", x.ahead(0, n), NO);
        for (int a : new int[] {-1, 1, 6, MAX, MIN}) c.due("40 ahead(" + a + ", 1)", x.ahead(a, 1), NO);
        SlicedBills z = begun();
        z.days(30);
        c.due("40 ahead(0, 0) on the last day", z.ahead(0, 0), 2790);
        c.due("40 ahead(0, 1) on the last day", z.ahead(0, 1), 2790 + 3100);
        x.giveUp(0);
        c.due("40 of an ended one", x.ahead(0, 400), 10);
        // Room for one more PERIOD alone: the next days do not pass.
        SlicedBills y = Checks.with("price A 3100;price B 6200");
        y.begin(0, 0, 1);
        for (int i = 0; i < 198; i++) y.change(0, 1 - i % 2);
        c.due("45 ENTRIES", y.count(0), 397);
        c.due("40 till there would be 401 ENTRIES", y.ahead(0, 400), 6200);
        c.due("41 not behind the days that pass", y.when(0, 6201), -2);
        c.due("41 by these", y.when(0, 6200), 31);
    }

    private static void when(Checks c) {
        SlicedBills x = begun();
        x.use(0, 5);
        int[][] due = {{MIN, 0}, {-1, 0}, {2790, 0}, {2791, 31}, {5900, 31}, {5901, 60}, {2800 + 13 * 3100, 397}, {2801 + 13 * 3100, -2}, {MAX, -2}};
        for (int[] d : due) c.due("41 when(0, " + d[0] + ")", x.when(0, d[0]), d[1]);
        c.due("41 nothing stays", x.count(0) + x.count(1), 1);
        for (int a : new int[] {-1, 1, 6, MAX, MIN}) c.due("41 when(" + a + ", 0)", x.when(a, 0), -1);
        x.days(20);
        c.due("41 behind so many days", x.when(0, 2791), 11);
        // ALL is last more on the last TURN of these 400 days.
        SlicedBills y = Checks.with("price A 3100");
        y.days(35);
        y.begin(0, 0, 10);
        c.due("35 to", y.entry(0, 5), 40);
        c.due("41 the last TURN", y.when(0, y.ahead(0, 400)), y.span(10, 435, 0) - 35);
        y.giveUp(0);
        c.due("41 of an ended one", y.when(0, y.accountIs(0, 8)), 0);
        c.due("41 of an ended one, more", y.when(0, y.accountIs(0, 8) + 1), -2);
        SlicedBills z = Checks.with("price A 3100");
        // DAY 425 is March 1st 2025, a TURN by ANCHOR 1.
        z.days(425 - 400);
        z.begin(0, 0, 1);
        c.due("41 by the 400th day", z.when(0, z.ahead(0, 400)), 400);
        c.due("41 not by the 399th", z.ahead(0, 399) < z.ahead(0, 400), true);
        SlicedBills w = Checks.with("price A 3100");
        w.days(425 - 401);
        w.begin(0, 0, 1);
        c.due("41 not by the 401st", w.when(0, w.ahead(0, 400) + 1), -2);
    }
}
