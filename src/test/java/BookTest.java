/** Promises 2, 3 and 25 to 29: feed, book, plan, billIs, usage, units, cheapest. */
public final class BookTest {
    public static void main(String[] args) {
        Checks c = new Checks();
        tape(c);
        told(c);
        faults(c);
        usages(c);
        mostUnits(c);
        cheapest(c);
        c.end();
    }

    private static void tape(Checks c) {
        SlicedBills x = new SlicedBills();
        for (int i = 1; i <= 20; i++) c.due("2 feed " + i, x.feed(i, i, i, i, i), 20 * i);
        c.due("2 a 21st feed", x.feed(0, 0, 0, 0, 0), -1);
        c.due("45 bytes", x.count(2), 400);
        c.due("3 book(0)", x.book(0), -1);
        c.due("3 book(201)", x.book(201), -1);
        c.due("3 book(-1)", x.book(-1), -1);
        c.due("3 the tape stays", x.count(2), 400);
        c.due("3 book(200)", x.book(200), -1000);
        c.due("3 the tape is empty", x.count(2), 0);
        x.feed(0, 0, 0, 0, 0);
        c.due("3 book(21) of 20 bytes", x.book(21), -1);
        c.due("3 the tape stays", x.count(2), 20);
        c.due("3 book(MAX)", x.book(Integer.MAX_VALUE), -1);
        // The highest byte of each int first, the ints one behind the other.
        SlicedBills y = new SlicedBills();
        y.feed(0x66656520, 0x31323b66, 0x65652033, 0, 0);
        c.due("2 fee 12;fee 3", y.book(12), 2);
        c.due("2 FEE", y.billIs(7), 3);
    }

    private static void told(Checks c) {
        SlicedBills x = Checks.with("price F 99999;free F 9999;tier F 1 99;tier F 9999 0;rest F 99;mode F whole;pause F 100;"
            + "less 100 99;fee 20;bulk F 2 100;bulk F 9 0;tax 0 100;tax 3652 0");
        int[] due = {99999, 9999, 2, 99, 1, 100};
        for (int w = 0; w < 6; w++) c.due("25 plan(5, " + w + ")", x.plan(5, w), due[w]);
        for (int w = 0; w < 6; w++) c.due("25 plan(4, " + w + ")", x.plan(4, w), 0);
        int[][] rows = {{10, 1}, {11, 9999}, {12, -2}, {13, -2}, {14, -1}, {20, 99}, {21, 0}, {22, -2}, {23, -2}, {24, -1}, {30, 2},
            {31, 9}, {32, -2}, {33, -1}, {40, 100}, {41, 0}, {42, -2}, {43, -1}, {6, -1}, {9, -1}, {19, -1}, {29, -1}, {39, -1},
            {-1, -1}, {50, -1}, {Integer.MIN_VALUE, -1}, {Integer.MAX_VALUE, -1}};
        for (int[] r : rows) c.due("25 plan(5, " + r[0] + ")", x.plan(5, r[0]), r[1]);
        c.due("25 plan(6, 0)", x.plan(6, 0), -1);
        c.due("25 plan(-1, 0)", x.plan(-1, 0), -1);
        int[][] bill = {{0, 100}, {1, 99}, {2, 0}, {3, 0}, {4, 0}, {5, 0}, {6, 0}, {7, 20}, {8, -1}, {9, -1}, {10, 0}, {11, 3652},
            {12, -2}, {13, -2}, {14, -1}, {19, -1}, {20, 100}, {21, 0}, {22, -2}, {23, -2}, {24, -1}, {-1, -1},
            {Integer.MIN_VALUE, -1}, {Integer.MAX_VALUE, -1}};
        for (int[] b : bill) c.due("26 billIs(" + b[0] + ")", x.billIs(b[0]), b[1]);
        c.due("45 CLAUSES", x.count(3), 13);
        c.due("3 told twice", Checks.book(x, "price A 1;price A 00002;mode A whole;mode A adding;less 1 2;less 3 4"), 6);
        c.due("25 the last counts", x.plan(0, 0), 2);
        c.due("25 the last counts", x.plan(0, 4), 0);
        c.due("26 the last counts", x.billIs(0), 3);
        c.due("26 the last counts", x.billIs(1), 4);
        for (int w = 0; w < 6; w++) c.due("3 nothing of the one before, plan(5, " + w + ")", x.plan(5, w), 0);
        for (int w : new int[] {10, 20, 30, 40}) c.due("3 nothing of the one before, plan(5, " + w + ")", x.plan(5, w), -2);
        c.due("3 nothing of the one before, FEE", x.billIs(7), 0);
        c.due("3 nothing of the one before, TAX", x.billIs(10), -2);
        c.due("3 a FAULT", Checks.book(x, "price A 7;fee 21"), -3014);
        c.due("3 the one before stays", x.plan(0, 4), 0);
        c.due("3 a BOOK behind a FAULT", Checks.book(x, "price A 2;fee 1;less 3 4;mode A whole;price A 2;price A 2"), 6);
        c.due("3 the one before stays", x.plan(0, 0), 2);
        c.due("3 the one before stays", x.count(3), 6);
        c.due("3 a new one", Checks.book(x, "price B 1"), 1);
        for (int w = 0; w < 8; w++) c.due("3 nothing of the one before, billIs(" + w + ")", x.billIs(w), 0);
        for (int w = 0; w < 6; w++) c.due("3 nothing of the one before, plan(0, " + w + ")", x.plan(0, w), 0);
        x.begin(0, 0, 1);
        c.due("3 there are ENTRIES, ahead of FAULTS", Checks.book(x, "x"), -3);
        c.due("3 the tape is empty", x.count(2), 0);
        c.due("3 NONE ahead of ENTRIES", x.book(1), -1);
    }

    private static void faults(Checks c) {
        String twenty = Checks.times(20, "fee 1");
        Object[][] all = {
            {"prize A 1", -1000}, {"feez 1", -1000}, {"taxz 1", -1000}, {"Price A 1", -1000}, {"pric", -1000}, {"pricee A 1", -1000}, {" price A 1", -1000}, {";", -1000},
            {"\u00ff", -1000}, {"price", -1005}, {"price;", -1005}, {"priceA 1", -1005}, {"price A1", -1007}, {"less 1;1", -1006}, {"fee1", -1003}, {"modeA whole", -1004}, {"mode Awhole", -1006}, {"price  A 1", -1006}, {"price a 1", -1006}, {"price G 1", -1006},
            {"price @ 1", -1006}, {"price ", -1006}, {"price A", -1007}, {"price AB 1", -1007}, {"price A ", -1008}, {"price A x", -1008},
            {"price A -1", -1008}, {"price A 1 ", -1009}, {"price A 1x", -1009}, {"price A 1;", -1010}, {"price A 1;;", -1010},
            {"price A 123456", -2013}, {"price A 000000", -2013}, {"price A 99999", 1}, {"free A 123456", -2012}, {"free A 10000", -3007},
            {"free A 10000x", -3007}, {"free A 9999x", -1011}, {"free A 09999", 1}, {"tier A 0 5", -3007}, {"tier A 10000 5", -3007},
            {"tier A 9999 100", -3012}, {"tier A 5", -1008}, {"tier A 5;", -1008}, {"tier A 5 5;tier A 5 100", -6018},
            {"tier A 5 5;tier A 0 5", -3018}, {"tier A 5 5;tier A 5x", -6018}, {"tier A 5 5;tier A 123456", -2023},
            {"tier A 5 5;tier B 5 5", 2}, {"rest A 100", -3007}, {"mode A", -1006}, {"mode A ", -1007}, {"mode A odd", -1007},
            {"mode A addin", -1007}, {"mode A addings", -1007}, {"mode A whole 1", -1012}, {"mode A adding", 1}, {"mode A price", -1007},
            {"pause A 101", -3008}, {"less 101 1", -3005}, {"less 100 100", -3009}, {"less 10", -1007}, {"less A 1", -1005}, {"fee 21", -3004},
            {"fee A 1", -1004}, {"bulk A 1 5", -3007}, {"bulk A 10 5", -3007}, {"bulk A 9 101", -3009},
            {"bulk A 3 5;bulk A 3 6", -6018}, {"bulk A 9 5;bulk A 10 6", -3018}, {"tax 3653 1", -3004}, {"tax 3652 101", -3009},
            {"tax 5 1;tax 5 1", -6012}, {"tax 5 1;tax 4 1", -6012}, {"tax 5 1;tax 3653 1", -3012}, {"tax", -1003},
            {"tier A 1 1;tier A 2 1;tier A 3 1;tier A 4 1;tier A", -6049}, {"tier A 1 1;tier A 2 1;tier A 3 1;tier A 4 1;tier G", -1049},
            {"tier A 1 1;tier A 2 1;tier A 3 1;tier A 4 1;tier B 1 1", 5}, {"bulk A 2 1;bulk A 3 1;bulk A 4 1;bulk A 0", -6038},
            {"tax 0 1;tax 1 1;tax 2 1;tax 3 1;tax", -6032}, {"tax 0 1;tax 1 1;tax 2 1;tax 3 1;taxi", -1032},
            {"tax 0 1;tax 1 1;tax 2 1;tax 3 1", 4}, {twenty, 20}, {twenty + ";", -4120}, {twenty + ";x", -4120}, {twenty + ";fee 1", -4120},
            {twenty + "x", -1119}, {"price A 0;free A 0;rest A 0;pause A 0;less 0 0;fee 0;tier A 1 0;bulk A 2 0;tax 0 0", 9},
            {"price A 99999;free A 9999;rest A 99;pause A 100;less 100 99;fee 20;tier A 9999 99;bulk A 9 100;tax 3652 100", 9},
            {"fee 1\u0000", -1005}, {"fee 1,fee 2", -1005}};
        for (Object[] a : all) {
            SlicedBills x = new SlicedBills();
            c.due("3 book of " + a[0], Checks.book(x, (String) a[0]), (Integer) a[1]);
            c.due("3 the tape is empty behind " + a[0], x.count(2), 0);
        }
        // Behind n bytes nothing is looked at.
        SlicedBills x = new SlicedBills();
        Checks.feed(x, "fee 12345678");
        c.due("3 fee 1 alone", x.book(5), 1);
        c.due("26 FEE", x.billIs(7), 1);
    }

    private static void usages(Checks c) {
        SlicedBills x = Checks.with("free A 2;tier A 10 5;tier A 20 3;rest A 1;free B 2;tier B 10 5;tier B 20 3;rest B 1;mode B whole;rest C 99");
        int[][] due = {{0, 0, 0}, {2, 0, 0}, {3, 5, 5}, {12, 50, 50}, {13, 53, 33}, {22, 80, 60}, {23, 81, 21}, {9999, 80 + 9977, 9997}};
        for (int[] d : due) {
            c.due("27 ADDING of " + d[0], x.usage(0, d[0]), d[1]);
            c.due("27 WHOLE of " + d[0], x.usage(1, d[0]), d[2]);
        }
        SlicedBills y = Checks.with("tier A 4 1;rest A 7;mode A whole");
        c.due("27 WHOLE at the last BOUND", y.usage(0, 4), 4);
        c.due("27 WHOLE beyond it", y.usage(0, 5), 35);
        c.due("27 REST alone", x.usage(2, 9999), 989901);
        c.due("27 usage(0, -1)", x.usage(0, -1), -1);
        c.due("27 usage(0, 10000)", x.usage(0, 10000), -1);
        c.due("27 usage(6, 0)", x.usage(6, 0), -1);
        c.due("27 usage(-1, 0)", x.usage(-1, 0), -1);
    }

    private static void mostUnits(Checks c) {
        SlicedBills x = Checks.with("free A 2;tier A 10 5;tier A 20 3;rest A 1;free B 2;tier B 10 5;tier B 20 3;rest B 1;mode B whole;rest C 99");
        int[][] due = {{0, 0, 2}, {0, 4, 2}, {0, 5, 3}, {0, 49, 11}, {0, 50, 12}, {0, 52, 12}, {0, 53, 13}, {0, 80, 22}, {0, 81, 23},
            {0, 99999999, 9999}, {1, 0, 2}, {1, 49, 11}, {1, 50, 18}, {1, 59, 21}, {1, 60, 62}, {1, 61, 63}, {2, 98, 0}, {2, 99, 1},
            {2, 989900, 9998}, {2, 989901, 9999}, {3, 0, 9999}, {0, -1, -1}, {0, 100000000, -1}, {6, 0, -1}, {-1, 0, -1}};
        for (int[] d : due) c.due("28 units(" + d[0] + ", " + d[1] + ")", x.units(d[0], d[1]), d[2]);
        PlainBills plain = new PlainBills();
        java.util.Random random = new java.util.Random(28);
        for (int i = 0; i < 300; i++) {
            String mode = random.nextBoolean() ? "adding" : "whole";
            int b = 1 + random.nextInt(100);
            String text = "free A " + random.nextInt(50) + ";tier A " + b + " " + random.nextInt(6) + ";tier A " + (b + 1 + random.nextInt(100))
                + " " + random.nextInt(6) + ";rest A " + random.nextInt(6) + ";mode A " + mode;
            SlicedBills y = Checks.with(text);
            java.nio.ByteBuffer bytes = java.nio.ByteBuffer.allocate(200).put(text.getBytes(java.nio.charset.StandardCharsets.ISO_8859_1)).rewind();
            while (bytes.remaining() >= 20) plain.feed(bytes.getInt(), bytes.getInt(), bytes.getInt(), bytes.getInt(), bytes.getInt());
            plain.book(text.length());
            for (int k = 0; k < 5; k++) {
                int cents = random.nextInt(1200);
                c.due("28 units(0, " + cents + ") by " + text, y.units(0, cents), plain.units(0, cents));
            }
        }
    }

    private static void cheapest(Checks c) {
        SlicedBills x = Checks.with("price A 500;price B 100;rest B 5;price C 100;rest C 5;price D 300;rest D 1;price E 9999;price F 501");
        int[][] due = {{0, 1}, {49, 1}, {50, 1}, {51, 3}, {199, 3}, {200, 0}, {9999, 0}, {10000, -1}, {-1, -1}};
        for (int[] d : due) c.due("29 cheapest(" + d[0] + ")", x.cheapest(d[0]), d[1]);
        SlicedBills y = Checks.with("tier A 5 9;tier A 7 1;rest A 2");
        c.due("27 behind the last TIER", y.usage(0, 10), 45 + 2 + 6);
        c.due("29 cheapest of an empty BOOK", new SlicedBills().cheapest(7), 0);
    }
}
