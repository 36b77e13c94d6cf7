/** Promises 12 and 13: deeds, tried. */
public final class DeedsTest {
    private static final int NO = Checks.NO;
    private static final String BOOK = "price A 3100;price B 6200;rest A 2;fee 5;pause A 10";

    public static void main(String[] args) {
        Checks c = new Checks();
        faults(c);
        digits(c);
        each(c);
        zeros(c);
        refused(c);
        tape(c);
        tried(c);
        c.end();
    }

    private static void faults(Checks c) {
        String all = Checks.times(24, "on 0");
        Object[][] texts = {{"begun 0", -1000}, {"Begin 0", -1000}, {"", -1}, {"begin", -1005}, {"begin0 A 1", -1005}, {"begin 0A 1", -1007}, {"begin 0 A1", -1009}, {"days1", -1004}, {"begin 6 A 1", -3006}, {"begin 9 A 1", -3006},
            {"begin x", -1006}, {"begin A", -1006}, {"begin  0", -1006}, {"begin 0", -1007}, {"begin 0 G 1", -1008}, {"begin 0 a 1", -1008},
            {"begin 0 A", -1009}, {"begin 0 A x", -1010}, {"begin 0 A 1 ", -1011}, {"begin 0 A 123456", -2015}, {"change 0 B 1", -1010},
            {"change 7 B", -3007}, {"seats 0", -1007}, {"seats 0 A", -1008}, {"stop 0 1", -1006}, {"stop 6", -3005}, {"on 0;", -1005},
            {"on 0;;", -1005}, {"on 0,on 0", -1004}, {"quit", -1004}, {"quit 0x", -1006}, {"use 0", -1005}, {"use 0 ", -1006},
            {"use 0 123456", -2011}, {"days", -1004}, {"days 123456", -2010}, {"days A", -1005}, {"days 0 1", -1006}, {"favour 6 1", -3007},
            {"pay 6 1", -3004}, {"remind 6", -3007}, {"move 6 1", -3005}, {"turn 999999", -2010}, {"turn", -1004}, {"turned 1", -1000},
            {all + ";", -4120}, {all + ";x", -4120}, {all + ";on 0", -4120}, {all + "x", -1119}, {"days 1;days 1\u0000", -1013}};
        for (Object[] t : texts) {
            SlicedBills x = Checks.with(BOOK);
            c.due("12 deeds of " + t[0], Checks.deeds(x, (String) t[0]), (Integer) t[1]);
            c.due("13 tried of " + t[0], Checks.tried(x, (String) t[0], 0), (Integer) t[1]);
        }
        SlicedBills x = Checks.with(BOOK);
        c.due("12 24 STEPS, the first refused", Checks.deeds(x, all), 0);
        c.due("12 a FAULT at the end", Checks.deeds(x, "begin 0 A 1;days 5;days"), -1023);
        c.due("12 nothing is done", x.count(0) + x.count(1), 0);
    }

    /** An X is one digit alone: what stands behind it is looked at where a blank, a ; or the end is due. */
    private static void digits(Checks c) {
        String[] steps = {"begin X A 1", "change X B", "seats X 2", "stop X", "on X", "quit X", "use X 1", "favour X 1", "pay X 1",
            "remind X", "move X 2"};
        for (String step : steps) {
            int at = step.indexOf('X');
            for (int digit = 0; digit <= 9; digit++) {
                SlicedBills x = Checks.with(BOOK);
                String one = step.replace("X", "" + digit);
                int due = digit > 5 ? -3000 - at : step.startsWith("begin") ? 1 : 0;
                c.due("12 " + one, Checks.deeds(x, one), due);
                for (String more : new String[] {"0", "5", "9", "12345", "a", "A", "/", ":", "\u0000", "\u00ff"}) {
                    String text = "days 7;" + step.replace("X", digit + more);
                    int fault = digit > 5 ? -3000 - at - 7 : -1000 - at - 8;
                    c.due("12 " + text, Checks.deeds(x, text), fault);
                    c.due("13 tried of " + text, Checks.tried(x, text, 0), fault);
                }
                c.due("12 nothing is done of " + step, x.count(1), 0);
            }
        }
        Object[][] ends = {{"begin 12 A 1", -1007}, {"begin 05 A 1", -1007}, {"begin 00 A 1", -1007}, {"begin 123456 A 1", -1007},
            {"begin 67 A 1", -3006}, {"begin 999999 A 1", -3006}, {"on 0;on 0;on 0;on 09", -1019}, {"on 0;on 0;on 0;on 9", -3018},
            {"on 00;on 0", -1004}, {"on 0;on 6x", -3008}, {"stop 66;", -3005}, {"quit 10", -1006}, {"begin 0 A 00001", 1},
            {"begin 0 A 000001", -2015}, {"on /", -1003}, {"on :", -1003}, {"on \u0000", -1003}, {"on \u00ff", -1003},
            {"on -1", -1003}, {"on ;on 0", -1003}, {"on ", -1003}, {"on 0;move ", -1010}, {"turn 7", 0}, {"days 10", 1}};
        for (Object[] t : ends) {
            c.due("12 deeds of " + t[0], Checks.deeds(Checks.with(BOOK), (String) t[0]), (Integer) t[1]);
        }
    }

    private static void each(Checks c) {
        SlicedBills x = Checks.with(BOOK);
        String[] steps = {"begin 0 A 1", "use 0 7", "days 15", "remind 0", "change 0 B", "seats 0 3", "stop 0", "on 0", "favour 0 50", "pay 0 99",
            "move 0 20", "turn 2", "quit 0"};
        for (String s : steps) c.due("12 " + s, Checks.deeds(x, s), 1);
        SlicedBills y = Checks.with(BOOK);
        y.begin(0, 0, 1);
        y.use(0, 7);
        y.days(15);
        y.remind(0);
        y.change(0, 1);
        y.seats(0, 3);
        y.pause(0, true);
        y.pause(0, false);
        y.favour(0, 50);
        y.pay(0, 99);
        y.move(0, 20);
        y.turn(2);
        y.giveUp(0);
        SlicedBills z = Checks.with(BOOK);
        c.due("12 all of them", Checks.deeds(z, String.join(";", steps)), 13);
        c.due("45 ENTRIES", x.count(0), y.count(0));
        for (int i = 0; i < y.count(0); i++) {
            for (int w = 0; w < 10; w++) {
                c.due("12 entry(" + i + ", " + w + ")", x.entry(i, w), y.entry(i, w));
                c.due("12 at once, entry(" + i + ", " + w + ")", z.entry(i, w), y.entry(i, w));
            }
        }
        for (int w = 0; w < 20; w++) {
            c.due("12 accountIs(0, " + w + ")", x.accountIs(0, w), y.accountIs(0, w));
            c.due("12 at once, accountIs(0, " + w + ")", z.accountIs(0, w), y.accountIs(0, w));
        }
    }

    private static void zeros(Checks c) {
        SlicedBills x = Checks.with("price B 5");
        c.due("12 answers of 0 are no refusals", Checks.deeds(x, "begin 5 A 1;begin 0 B 1;use 5 0;days 15;remind 0;change 5 C;turn 0"), 7);
        c.due("12 fewer STEPS than before", Checks.deeds(x, "days 1"), 1);
        c.due("45 TODAY", x.count(1), 16);
        c.due("12 a FAULT", Checks.deeds(x, "days 1;use"), -1010);
        c.due("12 STEPS behind a FAULT", Checks.deeds(x, "days 1;pay 5 3"), 2);
        c.due("17 PAID of account 5", x.accountIs(5, 18), 3);
        c.due("13 of account 5", Checks.tried(x, "change 5 B", 5), 5 - 5 * 17 / 31);
    }

    private static void refused(Checks c) {
        String[] refused = {"begin 0 B 2", "begin 1 A 0", "begin 1 A 32", "change 0 A", "change 1 B", "seats 0 1", "seats 0 10", "on 0", "quit 1",
            "use 1 1", "use 0 10000", "days 0", "days 401", "favour 0 3101", "favour 0 0", "pay 0 0", "pay 1 1", "remind 0", "move 0 1",
            "move 0 32", "turn 1", "stop 1"};
        for (String s : refused) {
            SlicedBills x = Checks.with(BOOK);
            c.due("12 till " + s, Checks.deeds(x, "begin 0 A 1;" + s + ";pay 0 5"), 1);
            c.due("12 nothing behind " + s, x.accountIs(0, 18), 0);
            c.due("12 nothing of " + s, x.count(0) + x.count(1), 1);
        }
        SlicedBills x = Checks.with(BOOK);
        c.due("12 by how much it is more is no refusal", Checks.deeds(x, "begin 0 B 1;change 0 A;stop 0;on 0;quit 0"), 5);
        for (int i = 0; i < 9; i++) x.days(400);
        x.days(400);
        c.due("12 days that can't pass are no refusal", Checks.deeds(x, "days 1;days 400;pay 0 1"), 3);
    }

    private static void tape(Checks c) {
        SlicedBills x = Checks.with(BOOK);
        x.feed(0x64617973, 0x20310000, 0, 0, 0);
        for (int n : new int[] {0, -1, 21, 201, Integer.MAX_VALUE, Integer.MIN_VALUE}) {
            c.due("12 deeds(" + n + ")", x.deeds(n), -1);
            c.due("13 tried(" + n + ", 0)", x.tried(n, 0), -1);
        }
        c.due("13 tried(6, 6)", x.tried(6, 6), -1);
        c.due("13 tried(6, -1)", x.tried(6, -1), -1);
        c.due("12 the tape stays", x.count(2), 20);
        c.due("12 deeds(6)", x.deeds(6), 1);
        c.due("12 the tape is empty", x.count(2), 0);
        c.due("45 TODAY", x.count(1), 1);
    }

    private static void tried(Checks c) {
        SlicedBills x = Checks.with(BOOK);
        c.due("13 not begun then", Checks.tried(x, "days 5", 0), NO);
        c.due("13 the tape is empty", x.count(2), 0);
        c.due("13 begun then", Checks.tried(x, "days 10;begin 0 A 1", 0), 2100);
        c.due("13 another account", Checks.tried(x, "begin 0 A 1", 1), NO);
        c.due("13 nothing stays", x.count(0) + x.count(1), 0);
        x.begin(0, 0, 1);
        x.use(0, 3);
        x.keep();
        c.due("13 till one is refused", Checks.tried(x, "days 10;change 0 B;change 0 B;days 300", 0), 3100 + 2100);
        c.due("13 ended then", Checks.tried(x, "quit 0", 0), 6);
        // MOVE: 4 of 31 days of two SEATS that are PAUSED, by the SPAN from December 5th on; TURN is refused.
        c.due("13 pay, seats, stop, move, turn", Checks.tried(x, "pay 0 5;seats 0 2;stop 0;move 0 5;turn 0", 0), 6 + 620 - 620 * 27 / 31);
        x.keep();
        SlicedBills y = Checks.with(BOOK);
        y.begin(3, 1, 1);
        y.begin(0, 0, 1);
        y.days(5);
        y.change(0, 1);
        y.turn(3);
        y.pay(0, 50);
        // What is below 0 covers all of DAY 0, so that nothing is late.
        c.due("13 remind is refused", Checks.tried(y, "days 10;remind 0;turn 1", 0), 500);
        c.due("13 turn of one that is turned round", Checks.tried(y, "pay 0 1;turn 3;days 26", 0), y.accountIs(0, 8));
        c.due("13 remind of the other", Checks.tried(y, "days 10;remind 3", 3), 6200 + 310);
        c.due("13 nothing stays, ENTRIES", x.count(0), 1);
        c.due("13 nothing stays, TODAY", x.count(1), 0);
        int[] due = {0, 1, 0, 0, 31, 31, 3100, 3, 3100, 0, 0, 1, 3100, 0, 0, 0, 0, 0, 0, 1};
        for (int w = 0; w < 20; w++) c.due("13 nothing stays, accountIs(0, " + w + ")", x.accountIs(0, w), due[w]);
        c.due("13 what is KEPT stays", x.undo(), true);
        c.due("13 what is KEPT stays", x.accountIs(0, 7), 3);
    }
}
