/** Boundary sentences on PLANS and USAGE: Term 1, Promises 25 to 29. */
public final class BoundsOfPlansTest {
    private static final String FULL = "tier B 1 5;tier B 3 6;tier B 7 7;tier B 9999 8;bulk B 2 9;bulk B 5 10;bulk B 9 11;tax 0 1;tax 9 2;tax 99 3;tax 3652 4";

    public static void main(String[] args) {
        Script s = Script.running();
        all(s);
        s.end();
    }

    static void all(Script s) {
        plans(s);
        bill(s);
        usage(s);
        asked(s);
        askedOfTheBill(s);
        units(s);
        cheapest(s);
    }

    private static void plans(Script s) {
        s.test("Term 1", "PLANS A to F (0 to 5)", """
            plan(-1, 0) -> -1 | plan(0, 0) -> 0 | plan(5, 0) -> 0 | plan(6, 0) -> -1 | begin(0, -1, 1) -> -1 | begin(0, 6, 1) -> -1
            book "price A 10;price B 11;price C 12;price D 13;price E 14;price F 15" -> 6
            plan(0, 0) -> 10 | plan(1, 0) -> 11 | plan(2, 0) -> 12 | plan(3, 0) -> 13 | plan(4, 0) -> 14 | plan(5, 0) -> 15
            begin(0, 0, 1) -> 10 | begin(5, 5, 1) -> 15 | line 0 "P0 2024-01-01 to 2024-02-01 A charge 0.10" | line 1 "P0 2024-01-01 to 2024-02-01 F charge 0.15"
            """);
        s.test("Term 1", "a PRICE for a PERIOD (cents, 0 at first), FREE units (0)", """
            plan(0, 0) -> 0 | plan(5, 0) -> 0 | plan(0, 1) -> 0 | plan(5, 1) -> 0 | begin(0, 0, 1) -> 0 | book "rest A 1" -> -3
            """);
        s.test("Term 1", "TIERS (none; a BOUND and cents for a unit each, 4 at most)", """
            plan(0, 2) -> 0 | plan(0, 10) -> -2 | book "%s" -> 11 | plan(1, 2) -> 4 | plan(0, 2) -> 0
            plan(1, 10) -> 1 | plan(1, 20) -> 5 | plan(1, 13) -> 9999 | plan(1, 23) -> 8 | usage(1, 7) -> 45 | usage(1, 8) -> 53 | units(1, 53) -> 8 | units(1, 60) -> 8
            book "%s;mode B whole;rest B 99" -> 13 | usage(1, 7) -> 49 | usage(1, 8) -> 64 | usage(1, 9999) -> 79992 | units(1, 72) -> 9 | book "%s;tier B 9999 1" -> -6123 | plan(1, 2) -> 4
            """.formatted(FULL, FULL, FULL));
        s.test("Term 1", "a REST (cents for a unit beyond all BOUNDS, 0)", """
            plan(0, 3) -> 0 | usage(0, 9999) -> 0 | book "tier A 10 2;rest A 3" -> 2 | usage(0, 10) -> 20 | usage(0, 11) -> 23
            book "tier A 10 2" -> 1 | usage(0, 11) -> 20
            """);
        s.test("Term 1", "a MODE (0 ADDING, 1 WHOLE; 0)", """
            plan(0, 4) -> 0 | book "mode A whole;mode B adding" -> 2 | plan(0, 4) -> 1 | plan(1, 4) -> 0 | plan(2, 4) -> 0
            """);
        s.test("Term 1", "a PAUSE (hundredths, 0)", """
            plan(0, 5) -> 0 | book "price A 1000;price B 1000;pause B 100;price C 1000;pause C 1" -> 5 | begin(0, 0, 1) -> 1000 | begin(1, 1, 1) -> 1000
            begin(2, 2, 1) -> 1000 | pause(0, true) -> -1000 | pause(1, true) -> 0 | pause(2, true) -> -990
            """);
        s.test("Term 1", "BULKS (none; a number of SEATS and hundredths each, 3 at most)", """
            plan(0, 30) -> -2 | plan(0, 40) -> -2 | book "%s" -> 11 | plan(1, 30) -> 2 | plan(1, 40) -> 9 | plan(1, 32) -> 9 | plan(1, 42) -> 11
            plan(0, 30) -> -2 | book "%s;bulk B 9 1" -> -6123 | plan(1, 32) -> 9
            """.formatted(FULL, FULL));
    }

    private static void bill(Script s) {
        s.test("Term 1", "LESS: hundredths off (0) for so many first PERIODS (0)", """
            billIs(0) -> 0 | billIs(1) -> 0 | book "price A 1000;less 30 2" -> 2 | billIs(0) -> 30 | billIs(1) -> 2
            begin(0, 0, 1) -> 700 | days(31) -> 31 | entry(2, 7) -> 700 | days(29) -> 29 | entry(4, 7) -> 1000
            """);
        s.test("Term 1", "FEE: hundredths (0)", """
            billIs(7) -> 0 | book "price A 1000" -> 1 | begin(0, 0, 1) -> 1000 | days(15) -> 15 | remind(0) -> 0
            """);
        s.test("Term 1", "TAXES (none; a DAY and hundredths each, 4 at most)", """
            billIs(10) -> -2 | billIs(20) -> -2 | book "%s" -> 11 | billIs(10) -> 0 | billIs(20) -> 1 | billIs(13) -> 3652 | billIs(23) -> 4
            book "%s;tax 3652 1" -> -6118 | billIs(13) -> 3652
            new | book "price A 100;tax 0 1;tax 9 2;tax 10 3;tax 11 4" -> 5 | days(10) -> 10 | begin(0, 0, 11) -> 100 | tax(0) -> 3 | days(1) -> 1 | begin(1, 0, 12) -> 100 | tax(1) -> 4
            """.formatted(FULL, FULL));
    }

    private static void usage(Script s) {
        s.test("Term 1", "USAGE of u units by a PLAN: u less FREE (0 at least) are v", """
            book "free A 5;rest A 2;free B 9999;rest B 99;rest C 99" -> 5 | usage(0, 0) -> 0 | usage(0, 4) -> 0 | usage(0, 5) -> 0 | usage(0, 6) -> 2
            usage(0, 9999) -> 19988 | usage(1, 9999) -> 0 | usage(2, 0) -> 0 | usage(2, 1) -> 99 | usage(2, 9999) -> 989901
            """);
        s.test("Term 1", "ADDING: of v the units up to the first BOUND at its cents, those beyond it up to the second one at its, .., those beyond all at REST", """
            book "tier A 10 5;tier A 20 3;tier A 21 9;tier A 30 0;rest A 1" -> 5 | usage(0, 9) -> 45 | usage(0, 10) -> 50 | usage(0, 11) -> 53
            usage(0, 20) -> 80 | usage(0, 21) -> 89 | usage(0, 22) -> 89 | usage(0, 30) -> 89 | usage(0, 31) -> 90 | usage(0, 9999) -> 10058
            book "free A 1;tier A 1 7;tier A 2 8;tier A 9999 9;rest A 99" -> 5 | usage(0, 1) -> 0 | usage(0, 2) -> 7 | usage(0, 3) -> 15 | usage(0, 4) -> 24
            """);
        s.test("Term 1", "WHOLE: all v at the cents of the first TIER with a BOUND that is v at least, else at REST", """
            book "mode A whole;tier A 10 5;tier A 20 3;rest A 1;free B 2;mode B whole;tier B 1 9;rest B 4;mode C whole;rest C 6" -> 10
            usage(0, 0) -> 0 | usage(0, 9) -> 45 | usage(0, 10) -> 50 | usage(0, 11) -> 33 | usage(0, 20) -> 60 | usage(0, 21) -> 21
            usage(1, 2) -> 0 | usage(1, 3) -> 9 | usage(1, 4) -> 8 | usage(2, 1) -> 6 | usage(2, 9999) -> 59994
            # Without TIERS, though there were some in the BOOK before.
            book "mode A whole;rest A 1" -> 2 | usage(0, 1) -> 1 | usage(0, 20) -> 20
            """);
        s.test("Promise 27", "USAGE of u units (0 to 9999) by a PLAN, cents", """
            book "rest A 2;rest F 3" -> 2 | usage(0, 0) -> 0 | usage(0, 9999) -> 19998 | usage(5, 9999) -> 29997 | usage(0, 10000) -> -1 | usage(0, -1) -> -1
            """);
        s.test("Promise 27", "NONE: no such ones", """
            usage(-1, 0) -> -1 | usage(0, 0) -> 0 | usage(5, 0) -> 0 | usage(6, 0) -> -1 | usage(6, 10000) -> -1 | usage(MIN, 1) -> -1 | usage(MAX, 1) -> -1
            usage(0, MIN) -> -1 | usage(0, MAX) -> -1
            """);
    }

    private static void asked(Script s) {
        s.test("Promise 25", "Of a PLAN, what 0 PRICE, 1 FREE, 2 how many TIERS, 3 REST, 4 MODE, 5 PAUSE", """
            book "price A 21;free A 22;tier A 1 1;tier A 2 1;tier A 3 1;rest A 23;mode A whole;pause A 24" -> 8
            plan(0, -1) -> -1 | plan(0, 0) -> 21 | plan(0, 1) -> 22 | plan(0, 2) -> 3 | plan(0, 3) -> 23 | plan(0, 4) -> 1 | plan(0, 5) -> 24 | plan(0, 6) -> -1
            """);
        s.test("Promise 25", "10 + i BOUND, 20 + i cents of TIER i (0 to 3; not so many: -2)", """
            plan(1, 10) -> -2 | plan(1, 13) -> -2 | plan(1, 20) -> -2 | plan(1, 23) -> -2 | book "%s" -> 11
            plan(1, 9) -> -1 | plan(1, 10) -> 1 | plan(1, 11) -> 3 | plan(1, 12) -> 7 | plan(1, 13) -> 9999 | plan(1, 14) -> -1
            plan(1, 19) -> -1 | plan(1, 20) -> 5 | plan(1, 21) -> 6 | plan(1, 22) -> 7 | plan(1, 23) -> 8 | plan(1, 24) -> -1
            book "tier B 1 5" -> 1 | plan(1, 10) -> 1 | plan(1, 11) -> -2 | plan(1, 20) -> 5 | plan(1, 21) -> -2
            """.formatted(FULL));
        s.test("Promise 25", "30 + i SEATS, 40 + i hundredths of BULK i (0 to 2; likewise)", """
            plan(1, 30) -> -2 | plan(1, 32) -> -2 | plan(1, 40) -> -2 | plan(1, 42) -> -2 | book "%s" -> 11
            plan(1, 29) -> -1 | plan(1, 30) -> 2 | plan(1, 31) -> 5 | plan(1, 32) -> 9 | plan(1, 33) -> -1
            plan(1, 39) -> -1 | plan(1, 40) -> 9 | plan(1, 41) -> 10 | plan(1, 42) -> 11 | plan(1, 43) -> -1
            book "bulk B 2 9" -> 1 | plan(1, 30) -> 2 | plan(1, 31) -> -2 | plan(1, 40) -> 9 | plan(1, 41) -> -2
            """.formatted(FULL));
        s.test("Promise 25", "NONE: no such ones", """
            plan(-1, 0) -> -1 | plan(6, 0) -> -1 | plan(6, 10) -> -1 | plan(MIN, 0) -> -1 | plan(MAX, 0) -> -1 | plan(0, MIN) -> -1 | plan(0, MAX) -> -1
            plan(0, 50) -> -1 | plan(0, 100) -> -1
            """);
    }

    private static void askedOfTheBill(Script s) {
        s.test("Promise 26", "What 0 LESS's hundredths, 1 for how many PERIODS, 2 TODAY, 3 ENTRIES", """
            billIs(0) -> 0 | billIs(1) -> 0 | billIs(2) -> 0 | billIs(3) -> 0 | book "less 11 12" -> 1 | begin(0, 0, 1) -> 0 | days(40) -> 40
            billIs(0) -> 11 | billIs(1) -> 12 | billIs(2) -> 40 | billIs(3) -> 3
            """);
        s.test("Promise 26", "4 accounts that have begun (bits), 5 of these ended (bits), 6 PAUSED (bits)", """
            billIs(4) -> 0 | billIs(5) -> 0 | billIs(6) -> 0 | begin(0, 0, 1) -> 0 | begin(5, 0, 1) -> 0 | begin(3, 0, 1) -> 0
            billIs(4) -> 41 | billIs(5) -> 0 | billIs(6) -> 0 | giveUp(5) -> 0 | pause(3, true) -> 0 | billIs(4) -> 41 | billIs(5) -> 32 | billIs(6) -> 8
            pause(0, true) -> 0 | billIs(6) -> 9 | keep() -> 9 | begin(4, 0, 1) -> 0 | undo() -> true | pause(3, false) -> 0 | billIs(6) -> 1 | giveUp(0) -> 0 | billIs(4) -> 41 | billIs(5) -> 33
            begin(1, 0, 1) -> 0 | begin(2, 0, 1) -> 0 | begin(4, 0, 1) -> 0 | billIs(4) -> 63 | new | begin(5, 0, 1) -> 0 | pause(5, true) -> 0 | billIs(4) -> 32 | billIs(6) -> 32 | giveUp(5) -> 0 | billIs(5) -> 32
            """);
        s.test("Promise 26", "7 FEE, 10 + i DAY, 20 + i hundredths of TAX i (0 to 3; not so many: -2)", """
            billIs(7) -> 0 | billIs(10) -> -2 | billIs(13) -> -2 | billIs(20) -> -2 | billIs(23) -> -2 | book "%s;fee 13" -> 12 | billIs(7) -> 13
            billIs(10) -> 0 | billIs(11) -> 9 | billIs(12) -> 99 | billIs(13) -> 3652 | billIs(20) -> 1 | billIs(21) -> 2 | billIs(22) -> 3 | billIs(23) -> 4
            book "tax 5 6" -> 1 | billIs(10) -> 5 | billIs(11) -> -2 | billIs(20) -> 6 | billIs(21) -> -2
            """.formatted(FULL));
        s.test("Promise 26", "NONE: no such what", """
            billIs(-1) -> -1 | billIs(8) -> -1 | billIs(9) -> -1 | billIs(14) -> -1 | billIs(19) -> -1 | billIs(24) -> -1 | billIs(30) -> -1
            billIs(MIN) -> -1 | billIs(MAX) -> -1
            """);
    }

    private static void units(Script s) {
        s.test("Promise 28", "The most units (0 to 9999) of which USAGE by a PLAN", """
            units(0, 0) -> 9999 | book "rest A 5;free B 3;rest B 5;rest C 99" -> 4 | units(0, 0) -> 0 | units(0, 4) -> 0 | units(0, 5) -> 1 | units(0, 9) -> 1
            units(1, 4) -> 3 | units(1, 5) -> 4 | units(2, 989900) -> 9998 | units(2, 989901) -> 9999 | units(2, 99999999) -> 9999
            book "tier A 10 2;tier A 20 0;rest A 1;free B 9999;rest B 99;tier C 9999 1;rest C 9;free D 9998;rest D 9" -> 9
            units(0, 19) -> 9 | units(0, 20) -> 20 | units(0, 21) -> 21 | units(1, 0) -> 9999 | units(2, 9998) -> 9998 | units(2, 9999) -> 9999
            units(3, 8) -> 9998 | units(3, 9) -> 9999
            book "tier A 10 2;tier A 20 3;rest A 4" -> 3 | units(0, 22) -> 10 | units(0, 23) -> 11 | units(0, 49) -> 19 | units(0, 50) -> 20 | units(0, 53) -> 20 | units(0, 54) -> 21
            """);
        s.test("Promise 28", ", and that of all fewer ones, is no more than so many cents (0 to 99999999)", """
            # WHOLE: 10 cost 50, 11 only 33; 20 cost 60, 21 only 21.
            book "mode A whole;tier A 10 5;tier A 20 3;rest A 1" -> 4
            units(0, 33) -> 6 | units(0, 49) -> 9 | units(0, 50) -> 16 | units(0, 51) -> 17 | units(0, 59) -> 19 | units(0, 60) -> 60 | units(0, 61) -> 61
            # A second TIER that costs more.
            book "mode A whole;tier A 10 1;tier A 20 3;rest A 1" -> 4 | units(0, 9) -> 9 | units(0, 12) -> 10 | units(0, 32) -> 10 | units(0, 33) -> 11 | units(0, 60) -> 60
            units(0, -1) -> -1 | units(0, 0) -> 0 | units(0, 99999999) -> 9999 | units(0, 100000000) -> -1
            # 11 cost more at once: 10 at 1 are 10, 11 at 4 are 44.
            book "mode A whole;free A 2;tier A 10 1;rest A 4" -> 4 | units(0, 9) -> 11 | units(0, 10) -> 12 | units(0, 43) -> 12 | units(0, 44) -> 13
            # A REST of 0, and no TIERS.
            book "mode A whole;tier A 10 5;mode B whole;mode C whole;rest C 2" -> 5 | units(0, 49) -> 9 | units(0, 50) -> 9999 | units(1, 0) -> 9999 | units(2, 3) -> 1
            """);
        s.test("Promise 28", "NONE: no such ones", """
            units(-1, 0) -> -1 | units(5, 0) -> 9999 | units(6, 0) -> -1 | units(MIN, 0) -> -1 | units(MAX, 0) -> -1 | units(0, MIN) -> -1 | units(0, MAX) -> -1
            """);
    }

    private static void cheapest(Script s) {
        s.test("Promise 29", "The lowest PLAN of which USAGE of u units (0 to 9999) and PRICE together are least", """
            cheapest(0) -> 0 | cheapest(9999) -> 0
            book "price A 500;price B 100;rest B 5;price C 100;rest C 5;price D 300;rest D 1;price E 501;price F 501" -> 9
            cheapest(0) -> 1 | cheapest(49) -> 1 | cheapest(50) -> 1 | cheapest(51) -> 3 | cheapest(199) -> 3 | cheapest(200) -> 0 | cheapest(201) -> 0
            book "price A 1;price B 1;price C 1;price D 1;price E 1;rest F 1" -> 6 | cheapest(0) -> 5 | cheapest(1) -> 0
            """);
        s.test("Promise 29", "NONE: no such u", "cheapest(-1) -> -1 | cheapest(10000) -> -1 | cheapest(MIN) -> -1 | cheapest(MAX) -> -1");
    }
}
