/** Boundary sentences on days, ANCHORS, SPANS and PARTS: Terms 1 and 2, Promises 31 to 34. */
public final class BoundsOfDaysTest {
    public static void main(String[] args) {
        Script s = Script.running();
        all(s);
        s.end();
    }

    static void all(Script s) {
        days(s);
        spans(s);
        parts(s);
        dates(s);
    }

    private static void days(Script s) {
        s.test("Term 1", "DAYS are 0 (January 1st 2024) to 3652 (December 31st 2033)", """
            date(0, 0) -> 2024 | date(0, 1) -> 1 | date(0, 2) -> 1 | date(-1, 2) -> -1
            date(3652, 0) -> 2033 | date(3652, 1) -> 12 | date(3652, 2) -> 31 | date(3653, 2) -> -1
            9 * days(400) -> 400 | days(400) -> 52 | count(1) -> 3652 | days(1) -> 0 | count(1) -> 3652
            """);
        s.test("Term 1", "by the calendar (2024, 2028, 2032 have a February of 29)", """
            day(2024, 2, 29) -> 59 | day(2024, 2, 30) -> -1 | day(2024, 3, 1) -> 60 | date(59, 2) -> 29 | date(60, 2) -> 1
            day(2028, 2, 29) -> 1520 | day(2028, 2, 30) -> -1 | day(2028, 3, 1) -> 1521 | date(1520, 2) -> 29
            day(2032, 2, 29) -> 2981 | day(2032, 2, 30) -> -1 | day(2032, 3, 1) -> 2982 | date(2981, 2) -> 29
            day(2025, 2, 28) -> 424 | day(2025, 2, 29) -> -1 | day(2025, 3, 1) -> 425 | date(424, 2) -> 28 | date(425, 2) -> 1
            day(2026, 2, 29) -> -1 | day(2027, 2, 29) -> -1 | day(2029, 2, 29) -> -1 | day(2030, 2, 29) -> -1
            day(2031, 2, 29) -> -1 | day(2033, 2, 29) -> -1 | day(2033, 2, 28) -> 3346 | day(2033, 3, 1) -> 3347
            """);
        s.test("Term 1", "TODAY: 0 at first", "count(1) -> 0 | billIs(2) -> 0 | days(1) -> 1 | count(1) -> 1 | billIs(2) -> 1");
    }

    private static void spans(Script s) {
        s.test("Term 2", "An account has an ANCHOR (a day of the month, 1 to 31; in a month with fewer days it stands for the last one)", """
            begin(0, 0, 0) -> -1 | begin(0, 0, 32) -> -1 | begin(0, 0, 1) -> 0 | begin(1, 0, 31) -> 0
            accountIs(0, 1) -> 1 | accountIs(1, 1) -> 31
            # February 2024 ends on DAY 59, that of 2025 on 424, April 2024 on 120.
            span(31, 31, 1) -> 59 | span(30, 31, 1) -> 59 | span(29, 31, 1) -> 59 | span(28, 31, 1) -> 58
            span(31, 400, 1) -> 424 | span(29, 400, 1) -> 424 | span(28, 400, 1) -> 424 | span(27, 400, 1) -> 423
            span(31, 91, 1) -> 120 | span(30, 91, 1) -> 120 | span(29, 91, 1) -> 119 | span(31, 60, 1) -> 90 | span(30, 60, 1) -> 89
            """);
        s.test("Term 2", "TURNS: days that are the ANCHOR's", """
            begin(0, 0, 31) -> 0 | accountIs(0, 4) -> 30
            days(29) -> 29 | accountIs(0, 2) -> 0 | days(1) -> 1 | accountIs(0, 2) -> 1 | accountIs(0, 3) -> 30 | accountIs(0, 4) -> 59
            days(28) -> 28 | accountIs(0, 2) -> 1 | days(1) -> 1 | accountIs(0, 2) -> 2 | accountIs(0, 3) -> 59 | accountIs(0, 4) -> 90
            days(31) -> 31 | accountIs(0, 3) -> 90 | accountIs(0, 4) -> 120
            """);
        s.test("Term 2", "SPAN of a day: from the last TURN that is not behind it, to the next TURN behind it (not of it)", """
            span(15, 13, 1) -> 14 | span(15, 14, 0) -> 14 | span(15, 14, 1) -> 45 | span(15, 15, 0) -> 14 | span(15, 15, 1) -> 45
            span(15, 44, 0) -> 14 | span(15, 44, 1) -> 45 | span(15, 45, 0) -> 45 | span(15, 45, 1) -> 74
            span(1, 31, 0) -> 31 | span(1, 30, 0) -> 0 | span(1, 30, 1) -> 31 | span(1, 31, 1) -> 60
            span(31, 58, 0) -> 30 | span(31, 58, 1) -> 59 | span(31, 59, 0) -> 59 | span(31, 59, 1) -> 90
            """);
        s.test("Term 2", "LENGTH: how many days that is", """
            span(15, 14, 2) -> 31 | span(15, 44, 2) -> 31 | span(15, 45, 2) -> 29 | span(1, 31, 2) -> 29 | span(1, 400, 2) -> 28
            span(31, 30, 2) -> 29 | span(31, 59, 2) -> 31 | span(31, 90, 2) -> 30 | span(30, 395, 2) -> 29
            """);
        s.test("Term 2", "(Days ahead of 0 are of December 2023.)", """
            span(1, 0, 0) -> 0 | span(2, 0, 0) -> -2 | span(2, 0, 1) -> 1 | span(2, 0, 2) -> 31 | span(31, 0, 1) -> 30 | span(31, 0, 2) -> 31
            part(3100, 2, 0, 1) -> 100 | part(3100, 31, 0, 30) -> 3000 | book "price A 3100" -> 1 | begin(0, 0, 2) -> 100 | accountIs(0, 5) -> 31
            """);
        s.test("Promise 32", "By an ANCHOR", """
            span(0, 0, 1) -> -1 | span(1, 0, 1) -> 31 | span(31, 0, 1) -> 30 | span(32, 0, 1) -> -1 | span(-1, 0, 1) -> -1
            span(MIN, 0, 1) -> -1 | span(MAX, 0, 1) -> -1
            """);
        s.test("Promise 32", "of the SPAN of a day (0 to 3652)", """
            span(1, -1, 1) -> -1 | span(1, 0, 1) -> 31 | span(1, 3652, 1) -> 3653 | span(1, 3653, 1) -> -1 | span(1, MIN, 1) -> -1
            span(1, MAX, 1) -> -1
            """);
        s.test("Promise 32", "what 0 its first day (below 0: -2), 1 the next TURN, 2 LENGTH", """
            span(1, 0, 0) -> 0 | span(2, 0, 0) -> -2 | span(2, 1, 0) -> 1 | span(31, 29, 0) -> -2 | span(31, 30, 0) -> 30
            span(2, 0, 1) -> 1 | span(2, 0, 2) -> 31
            """);
        s.test("Promise 32", "NONE: no such ones", "span(1, 0, -1) -> -1 | span(1, 0, 3) -> -1 | span(1, 0, MIN) -> -1 | span(1, 0, MAX) -> -1 | span(0, -1, 3) -> -1");
        s.test("Promise 32", "(Behind DAY 3652 days go on.)", """
            span(31, 3651, 1) -> 3652 | span(31, 3652, 0) -> 3652 | span(31, 3652, 1) -> 3683 | span(31, 3652, 2) -> 31
            span(1, 3652, 1) -> 3653 | span(30, 3652, 1) -> 3682 | span(30, 3650, 1) -> 3651
            """);
    }

    private static void parts(Script s) {
        s.test("Term 2", "PART of a price p from day a to day b of one SPAN: with i, j how many days a, b are behind the SPAN's first day: "
            + "p times j by LENGTH (cut) less p times i by LENGTH (cut)", """
            # 100 by 31 days: 3, 6, 9, 12, 16 behind 1 to 5 days, 96 behind 30.
            part(100, 1, 0, 1) -> 3 | part(100, 1, 3, 4) -> 3 | part(100, 1, 4, 5) -> 4 | part(100, 1, 0, 5) -> 16 | part(100, 1, 30, 31) -> 4
            part(100, 1, 0, 31) -> 100 | part(100, 1, 0, 0) -> 0 | part(30, 1, 0, 1) -> 0 | part(31, 1, 0, 1) -> 1 | part(30, 1, 1, 2) -> 1
            # By ANCHOR 15 DAY 0 is 17 days behind December 15th.
            part(100, 15, 0, 14) -> 46 | part(100, 15, 13, 14) -> 4 | part(100, 15, 14, 15) -> 3
            """);
        s.test("Promise 31", "PART of a price (0 to 999999)", """
            part(-1, 1, 0, 31) -> -1 | part(-1, 1, 0, 1) -> -1 | part(-1, 1, 0, 0) -> -1 | part(0, 1, 0, 31) -> 0 | part(999999, 1, 0, 31) -> 999999 | part(1000000, 1, 0, 31) -> -1
            part(999999, 1, 0, 30) -> 967740 | part(MIN, 1, 0, 31) -> -1 | part(MAX, 1, 0, 31) -> -1
            """);
        s.test("Promise 31", "by an ANCHOR (1 to 31)", """
            part(3100, 0, 0, 0) -> -1 | part(3100, 1, 0, 1) -> 100 | part(3100, 31, 0, 1) -> 100 | part(3100, 32, 0, 0) -> -1
            part(3100, MIN, 0, 0) -> -1 | part(3100, MAX, 0, 0) -> -1
            """);
        s.test("Promise 31", "from a day to a later one (or the same)", "part(3100, 1, 5, 4) -> -1 | part(3100, 1, 5, 5) -> 0 | part(3100, 1, 5, 6) -> 100");
        s.test("Promise 31", "both of the SPAN of the first, or its end", """
            part(3100, 1, 0, 30) -> 3000 | part(3100, 1, 0, 31) -> 3100 | part(3100, 1, 0, 32) -> -1
            part(3100, 1, 30, 31) -> 100 | part(3100, 1, 30, 32) -> -1 | part(2900, 1, 31, 31) -> 0 | part(2900, 1, 31, 60) -> 2900
            part(2900, 1, 31, 61) -> -1 | part(3100, 15, 0, 14) -> 1400 | part(3100, 15, 0, 15) -> -1
            """);
        s.test("Promise 31", "NONE: no such ones (days 0 to 3652)", """
            part(3100, 1, -1, 0) -> -1 | part(3100, 1, 0, 0) -> 0 | part(3100, 1, 3622, 3652) -> 3000 | part(3100, 1, 3622, 3653) -> -1
            part(3100, 1, 3652, 3652) -> 0 | part(3100, 1, 3653, 3653) -> -1 | part(3100, 31, 3651, 3652) -> 100 | part(3100, 31, 3652, 3652) -> 0
            part(3100, 1, MIN, 0) -> -1 | part(3100, 1, 0, MAX) -> -1 | part(3100, 1, MIN, MAX) -> -1 | part(3100, 1, MAX, MIN) -> -1
            """);
    }

    private static void dates(Script s) {
        s.test("Promise 33", "Of a DAY (0 to 3652)", """
            date(-1, 0) -> -1 | date(0, 0) -> 2024 | date(3652, 0) -> 2033 | date(3653, 0) -> -1 | date(MIN, 0) -> -1 | date(MAX, 0) -> -1
            """);
        s.test("Promise 33", "what 0 the year, 1 the month (1 to 12), 2 the day of the month", """
            date(365, 0) -> 2024 | date(365, 1) -> 12 | date(365, 2) -> 31 | date(366, 0) -> 2025 | date(366, 1) -> 1 | date(366, 2) -> 1
            date(30, 1) -> 1 | date(30, 2) -> 31 | date(31, 1) -> 2 | date(31, 2) -> 1
            """);
        s.test("Promise 33", "NONE: no such ones", "date(0, -1) -> -1 | date(0, 3) -> -1 | date(0, MIN) -> -1 | date(0, MAX) -> -1 | date(3653, 3) -> -1");
        s.test("Promise 34", "The DAY of a date (2024 to 2033)", """
            day(2023, 12, 31) -> -1 | day(2024, 1, 1) -> 0 | day(2033, 12, 31) -> 3652 | day(2034, 1, 1) -> -1
            day(2024, 12, 31) -> 365 | day(2025, 1, 1) -> 366 | day(2023, 12, 30) -> -1 | day(2023, 12, 1) -> -1 | day(2034, 1, 2) -> -1 | day(2023, 1, 1) -> -1
            """);
        s.test("Promise 34", "NONE: no such one", """
            day(2024, 0, 1) -> -1 | day(2024, 1, 1) -> 0 | day(2024, 12, 1) -> 335 | day(2024, 13, 1) -> -1
            day(2024, 1, 0) -> -1 | day(2024, 2, 0) -> -1 | day(2025, 1, 0) -> -1 | day(2024, 2, -1) -> -1 | day(2024, 1, 31) -> 30 | day(2024, 1, 32) -> -1 | day(2024, 4, 30) -> 120 | day(2024, 4, 31) -> -1
            day(2024, 6, 31) -> -1 | day(2024, 9, 31) -> -1 | day(2024, 11, 31) -> -1 | day(2024, 3, 31) -> 90 | day(2024, 5, 31) -> 151
            day(2024, 7, 31) -> 212 | day(2024, 8, 31) -> 243 | day(2024, 10, 31) -> 304 | day(2033, 12, 32) -> -1
            day(MIN, 1, 1) -> -1 | day(MAX, 1, 1) -> -1 | day(2024, MIN, 1) -> -1 | day(2024, MAX, 1) -> -1 | day(2024, 1, MIN) -> -1
            day(2024, 1, MAX) -> -1
            """);
    }
}
