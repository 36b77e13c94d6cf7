/** Promises 31 to 34: part, span, date, day. */
public final class DaysTest {
    public static void main(String[] args) {
        Checks c = new Checks();
        SlicedBills x = new SlicedBills();
        dates(c, x);
        spans(c, x);
        parts(c, x);
        everyDay(c, x);
        c.end();
    }

    private static void dates(Checks c, SlicedBills x) {
        int[][] known = {{0, 2024, 1, 1}, {30, 2024, 1, 31}, {31, 2024, 2, 1}, {59, 2024, 2, 29}, {60, 2024, 3, 1},
            {365, 2024, 12, 31}, {366, 2025, 1, 1}, {424, 2025, 2, 28}, {425, 2025, 3, 1}, {1520, 2028, 2, 29},
            {2981, 2032, 2, 29}, {3652, 2033, 12, 31}};
        for (int[] k : known) {
            for (int w = 0; w < 3; w++) c.due("33 date(" + k[0] + ", " + w + ")", x.date(k[0], w), k[w + 1]);
            c.due("34 day of " + k[0], x.day(k[1], k[2], k[3]), k[0]);
        }
        int[][] none = {{2023, 12, 31}, {2034, 1, 1}, {2025, 2, 29}, {2024, 2, 30}, {2024, 4, 31}, {2024, 0, 1}, {2024, 13, 1},
            {2024, 1, 0}, {2024, 1, 32}, {2024, 1, -1}, {Integer.MAX_VALUE, 1, 1}, {Integer.MIN_VALUE, 1, 1},
            {2024, Integer.MAX_VALUE, 1}, {2033, 12, Integer.MAX_VALUE}};
        for (int[] n : none) c.due("34 day(" + n[0] + ", " + n[1] + ", " + n[2] + ")", x.day(n[0], n[1], n[2]), -1);
        for (int d : new int[] {-1, 3653, Integer.MAX_VALUE, Integer.MIN_VALUE}) c.due("33 date(" + d + ", 0)", x.date(d, 0), -1);
        c.due("33 date(0, 3)", x.date(0, 3), -1);
        c.due("33 date(0, -1)", x.date(0, -1), -1);
    }

    private static void spans(Checks c, SlicedBills x) {
        int[][] known = {{1, 0, 0, 31, 31}, {15, 0, -2, 14, 31}, {15, 13, -2, 14, 31}, {15, 14, 14, 45, 31}, {31, 0, -2, 30, 31},
            {31, 30, 30, 59, 29}, {30, 59, 59, 89, 30}, {29, 59, 59, 88, 29}, {31, 58, 30, 59, 29}, {31, 59, 59, 90, 31},
            {31, 424, 424, 455, 31}, {30, 423, 395, 424, 29}, {1, 3652, 3622, 3653, 31}, {31, 3652, 3652, 3683, 31},
            {30, 3652, 3651, 3682, 31}, {15, 3652, 3636, 3667, 31}};
        for (int[] k : known) for (int w = 0; w < 3; w++) c.due("32 span(" + k[0] + ", " + k[1] + ", " + w + ")", x.span(k[0], k[1], w), k[w + 2]);
        int[][] none = {{0, 0, 0}, {32, 0, 0}, {-1, 0, 0}, {1, -1, 0}, {1, 3653, 0}, {1, 0, -1}, {1, 0, 3},
            {Integer.MIN_VALUE, 0, 1}, {1, Integer.MAX_VALUE, 1}, {1, Integer.MIN_VALUE, 1}};
        for (int[] n : none) c.due("32 span(" + n[0] + ", " + n[1] + ", " + n[2] + ")", x.span(n[0], n[1], n[2]), -1);
    }

    private static void parts(Checks c, SlicedBills x) {
        // 100 by 29 days from day 31 to 60: 3 cents for most days, 4 for some, 100 for all.
        int sum = 0;
        for (int d = 31; d < 60; d++) sum += x.part(100, 1, d, d + 1);
        c.due("31 parts of each day together", sum, 100);
        c.due("31 part(100, 1, 31, 60)", x.part(100, 1, 31, 60), 100);
        c.due("31 part(100, 1, 40, 50)", x.part(100, 1, 40, 50), 65 - 31);
        c.due("31 part(100, 1, 40, 40)", x.part(100, 1, 40, 40), 0);
        // Of a SPAN that begins ahead of DAY 0: 17 of 31 days are gone on DAY 0 by ANCHOR 15.
        c.due("31 part(310, 15, 0, 14)", x.part(310, 15, 0, 14), 310 - 170);
        c.due("31 part(999999, 31, 3651, 3652)", x.part(999999, 31, 3651, 3652), 999999 - 999999 * 30 / 31);
        c.due("31 part(0, 1, 0, 31)", x.part(0, 1, 0, 31), 0);
        int[][] none = {{-1, 1, 0, 1}, {1000000, 1, 0, 1}, {1, 0, 0, 1}, {1, 32, 0, 1}, {1, 1, -1, 1}, {1, 1, 1, 0}, {1, 1, 0, 32},
            {1, 15, 0, 15}, {1, 1, 3652, 3653}, {1, 1, 3653, 3653}, {1, 1, 0, Integer.MAX_VALUE}, {1, 1, Integer.MIN_VALUE, 0}};
        for (int[] n : none) c.due("31 part(" + n[0] + ", " + n[1] + ", " + n[2] + ", " + n[3] + ")", x.part(n[0], n[1], n[2], n[3]), -1);
    }

    private static void everyDay(Checks c, SlicedBills x) {
        java.time.LocalDate date = java.time.LocalDate.of(2024, 1, 1);
        for (int d = 0; d <= 3652; d++) {
            c.due("33 year of " + d, x.date(d, 0), date.getYear());
            c.due("33 month of " + d, x.date(d, 1), date.getMonthValue());
            c.due("33 day of " + d, x.date(d, 2), date.getDayOfMonth());
            c.due("34 DAY of " + date, x.day(date.getYear(), date.getMonthValue(), date.getDayOfMonth()), d);
            date = date.plusDays(1);
        }
        PlainBills plain = new PlainBills();
        for (int anchor = 1; anchor <= 31; anchor++) {
            for (int d = 0; d <= 3652; d++) {
                for (int w = 0; w < 3; w++) c.due("32 span(" + anchor + ", " + d + ", " + w + ")", x.span(anchor, d, w), plain.span(anchor, d, w));
            }
        }
    }
}
