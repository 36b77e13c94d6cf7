/** Boundary sentences on what would be: Term 2, Promises 38 to 41. */
public final class BoundsOfForecastsTest {
    public static void main(String[] args) {
        Script s = Script.running();
        all(s);
        s.end();
    }

    static void all(Script s) {
        quote(s);
        best(s);
        ahead(s);
        when(s);
    }

    private static void quote(Script s) {
        s.test("Term 2", "QUOTE of a PLAN for an account on a day d (TODAY to the PERIOD's last day)", """
            book "price A 3100;price B 6200" -> 2 | begin(0, 0, 1) -> 3100 | quote(0, 1, -1) -> -1000000 | quote(0, 1, 0) -> 3100 | days(10) -> 10
            quote(0, 1, 9) -> -1000000 | quote(0, 1, 10) -> 2100 | quote(0, 1, 11) -> 2000 | quote(0, 1, 30) -> 100 | quote(0, 1, 31) -> -1000000 | quote(0, 0, 31) -> -1000000
            days(20) -> 20 | quote(0, 1, 29) -> -1000000 | quote(0, 1, 30) -> 100 | quote(0, 1, 31) -> -1000000 | days(1) -> 1 | quote(0, 1, 31) -> 3100 | quote(0, 1, 59) -> 107
            quote(0, 1, 60) -> -1000000
            """);
        s.test("Term 2", "by how much ALL would be more by a CHANGE on d, were nothing else done (credit and charge from d on; 0 for its own PLAN)", """
            book "price A 100;price B 50;bulk B 2 50;pause A 50;pause B 10;less 10 1" -> 6 | begin(0, 0, 1) -> 90 | days(10) -> 10 | quote(0, 0, 10) -> 0 | quote(0, 0, 30) -> 0
            # From DAY 10 on 90 - 29 and 45 - 14, from 30 on 90 - 87 and 45 - 43.
            quote(0, 1, 10) -> -30 | quote(0, 1, 30) -> -1 | quote(0, 2, 10) -> -61 | seats(0, 2) -> 61 | quote(0, 1, 10) -> -91 | use(0, 9) -> 9 | pay(0, 5) -> 5 | quote(0, 1, 10) -> -91
            pause(0, true) -> -61 | quote(0, 1, 10) -> -58 | change(0, 1) -> -58 | quote(0, 1, 10) -> 0 | quote(0, 0, 10) -> 58
            """);
        s.test("Promise 38", "QUOTE for a CHANGE on a day", """
            book "price A 3100;price B 6200" -> 2 | begin(0, 0, 15) -> 1400 | quote(0, 1, 0) -> 1400 | quote(0, 1, 13) -> 100 | quote(0, 1, 14) -> -1000000 | quote(0, 2, 13) -> -100
            # Though no CHANGE would find room any more.
            fill 400 | quote(0, 1, 0) -> 1400 | change(0, 1) -> -1000001
            """);
        s.test("Promise 38", "-1000000: it has not begun, has ended, no such ones", """
            quote(0, 1, 0) -> -1000000 | begin(0, 0, 1) -> 0 | quote(0, -1, 0) -> -1000000 | quote(0, 6, 0) -> -1000000 | quote(0, 5, 0) -> 0 | quote(-1, 1, 0) -> -1000000
            quote(6, 1, 0) -> -1000000 | quote(1, 1, 0) -> -1000000 | quote(MIN, 1, 0) -> -1000000 | quote(MAX, 1, 0) -> -1000000 | quote(0, MIN, 0) -> -1000000
            quote(0, MAX, 0) -> -1000000 | quote(0, 1, MIN) -> -1000000 | quote(0, 1, MAX) -> -1000000 | giveUp(0) -> 0 | quote(0, 1, 0) -> -1000000 | quote(0, 0, 0) -> -1000000
            """);
    }

    private static void best(Script s) {
        s.test("Promise 39", "Of TODAY to the PERIOD's last day that on which the QUOTE of a PLAN is least (what 0; of like ones the first)", """
            book "price A 3100;price B 6200;price C 3100;price D 3102" -> 4 | begin(0, 0, 1) -> 3100 | days(10) -> 10 | best(0, 1, 0) -> 30 | best(0, 4, 0) -> 10 | best(0, 2, 0) -> 10
            # 2 more till half of the days are gone, then 1.
            best(0, 0, 0) -> 10 | best(0, 3, 0) -> 16 | quote(0, 3, 15) -> 2 | quote(0, 3, 16) -> 1 | quote(0, 3, 30) -> 1 | days(5) -> 5 | best(0, 3, 0) -> 16 | days(1) -> 1 | best(0, 3, 0) -> 16 | days(1) -> 1 | best(0, 3, 0) -> 17
            # 3 more, then 2, then 1: no step of 1 is passed by.
            new | book "price B 3" -> 1 | begin(0, 0, 1) -> 0 | best(0, 1, 0) -> 21 | best(0, 1, 1) -> 1 | quote(0, 1, 10) -> 3 | quote(0, 1, 11) -> 2 | quote(0, 1, 20) -> 2
            # The PERIOD's last day.
            new | book "price A 3100;price B 6200" -> 2 | begin(0, 0, 1) -> 3100 | days(17) -> 17
            days(13) -> 13 | best(0, 1, 0) -> 30 | best(0, 4, 0) -> 30
            """);
        s.test("Promise 39", "how much (1)", """
            book "price A 3100;price B 6200;price C 3100;price D 3102" -> 4 | begin(0, 0, 1) -> 3100 | days(10) -> 10 | best(0, 1, 1) -> 100 | best(0, 4, 1) -> -2100 | best(0, 2, 1) -> 0
            best(0, 0, 1) -> 0 | best(0, 3, 1) -> 1
            """);
        s.test("Promise 39", "the PLAN with the least QUOTE today (2; of like ones the lowest; plan is not looked at, but must be one)", """
            book "price A 3100;price B 310;price C 31;price D 31;price E 93;price F 31" -> 6 | begin(0, 0, 1) -> 3100 | best(0, 0, 2) -> 2 | best(0, 5, 2) -> 2 | best(0, 6, 2) -> -1000000
            best(0, -1, 2) -> -1000000 | change(0, 3) -> -3069 | best(0, 0, 2) -> 2 | change(0, 2) -> 0 | best(0, 3, 2) -> 2
            # Its own PLAN with its QUOTE of 0 is one of them.
            other | book "price A 5;price B 4;price C 4;price D 5;price E 5;price F 5" -> 6 | begin(0, 1, 1) -> 4 | best(0, 0, 2) -> 1 | begin(1, 0, 1) -> 5 | best(1, 5, 2) -> 1
            best(0, 0, 2) -> 1 | new | book "price A 5;price B 4;price C 3;price D 5;price E 5;price F 5" -> 6 | begin(0, 0, 1) -> 5 | best(0, 0, 2) -> 2
            new | book "price A 5;price B 5;price C 5;price D 5;price E 5;price F 4" -> 6 | begin(0, 0, 1) -> 5 | best(0, 0, 2) -> 5 | days(30) -> 30 | best(0, 0, 2) -> 0
            # TODAY: of 2 and 1 cents 1 each are left from DAY 16 on, and the lower PLAN is the best.
            new | book "price A 2;price B 9;price C 1;price D 9;price E 9;price F 9" -> 6 | begin(0, 1, 1) -> 9 | days(15) -> 15 | best(0, 0, 2) -> 2 | days(1) -> 1 | best(0, 0, 2) -> 0
            new | book "price A 9;price B 2;price C 1;price D 9;price E 9;price F 9" -> 6 | begin(0, 0, 1) -> 9 | days(15) -> 15 | best(0, 0, 2) -> 2 | days(1) -> 1 | best(0, 0, 2) -> 1
            """);
        s.test("Promise 39", "-1000000: as quote()", """
            best(0, 1, 0) -> -1000000 | best(0, 1, 2) -> -1000000 | begin(0, 0, 1) -> 0 | best(0, 1, -1) -> -1000000 | best(0, 1, 0) -> 0 | best(0, 1, 2) -> 0 | best(0, 1, 3) -> -1000000
            best(0, 6, 0) -> -1000000 | best(0, 6, 1) -> -1000000 | best(0, -1, 0) -> -1000000 | best(-1, 1, 0) -> -1000000 | best(6, 1, 0) -> -1000000 | best(1, 1, 0) -> -1000000
            best(MIN, 1, 0) -> -1000000 | best(MAX, 1, 0) -> -1000000 | best(0, MIN, 0) -> -1000000 | best(0, MAX, 2) -> -1000000 | best(0, 1, MIN) -> -1000000
            best(0, 1, MAX) -> -1000000 | giveUp(0) -> 0 | best(0, 1, 0) -> -1000000 | best(0, 1, 1) -> -1000000 | best(0, 1, 2) -> -1000000
            """);
    }

    private static void ahead(Script s) {
        s.test("Promise 40", "ALL of an account if so many days (0 to 400) pass as by days()", """
            book "price A 3100;rest A 2" -> 2 | begin(0, 0, 1) -> 3100 | use(0, 5) -> 5 | pay(0, 9) -> 9 | ahead(0, -1) -> -1000000 | ahead(0, 0) -> 3100 | ahead(0, 1) -> 3100
            ahead(0, 30) -> 3100 | ahead(0, 31) -> 6210 | ahead(0, 59) -> 6210 | ahead(0, 60) -> 9310 | ahead(0, 396) -> 40310 | ahead(0, 397) -> 43410 | ahead(0, 400) -> 43410
            ahead(0, 401) -> -1000000 | keep() -> 1 | days(30) -> 30 | ahead(0, 0) -> 3100 | ahead(0, 1) -> 6210 | undo() -> true | days(25) -> 25 | ahead(0, 5) -> 3100 | ahead(0, 6) -> 6210 | ahead(0, 371) -> 40310 | ahead(0, 372) -> 43410
            ahead(0, 399) -> 43410 | ahead(0, 400) -> 46510
            """);
        s.test("Promise 40", "pass as by days()", """
            # Two accounts turn with 398 ENTRIES: the 31st day does not pass; with 396 it does, and the 60th does not.
            book "price A 3100;price E 100;price F 100" -> 3 | fill 398 | ahead(4, 30) -> 100 | ahead(4, 400) -> 100 | other | book "price F 100" -> 1 | fill 396 | ahead(4, 31) -> 200
            ahead(4, 59) -> 200 | ahead(4, 60) -> 200 | ahead(4, 400) -> 200 | giveUp(4) -> -100 | ahead(4, 400) -> 0
            """);
        s.test("Promise 40", "by days()", """
            # Behind DAY 3652 none passes, nor when a PERIOD would end behind it.
            book "price A 3100;price B 100" -> 2 | 9 * days(400) -> 400 | begin(0, 0, 31) -> 2170 | ahead(0, 20) -> 2170 | ahead(0, 21) -> 5270 | ahead(0, 400) -> 5270
            # Account 1 would turn on DAY 3622, to 3653.
            begin(1, 1, 1) -> 74 | ahead(1, 21) -> 74 | ahead(1, 22) -> 74 | ahead(1, 400) -> 74 | ahead(0, 21) -> 5270 | ahead(0, 400) -> 5270
            """);
        s.test("Promise 40", "-1000000: no such ones, not begun", """
            ahead(0, 0) -> -1000000 | begin(0, 0, 1) -> 0 | ahead(0, 0) -> 0 | ahead(0, 400) -> 0 | ahead(0, 401) -> -1000000 | ahead(0, -1) -> -1000000 | ahead(-1, 0) -> -1000000
            ahead(6, 0) -> -1000000 | ahead(1, 0) -> -1000000 | ahead(MIN, 0) -> -1000000 | ahead(MAX, 0) -> -1000000 | ahead(0, MIN) -> -1000000 | ahead(0, MAX) -> -1000000
            giveUp(0) -> 0 | ahead(0, 400) -> 0
            """);
        s.test("Promise 40", "(Nothing stays changed.)", """
            book "price A 3100" -> 1 | begin(0, 0, 1) -> 3100 | use(0, 5) -> 5 | keep() -> 1 | use(0, 1) -> 6 | feed(0, 0, 0, 0, 0) -> 20 | ahead(0, 400) -> 43400 | count(0) -> 1
            count(1) -> 0 | count(2) -> 20 | accountIs(0, 7) -> 6 | undo() -> true | accountIs(0, 7) -> 5 | count(0) -> 1 | ahead(0, 400) -> 43400 | undo() -> true | count(0) -> 1
            """);
    }

    private static void when(Script s) {
        s.test("Promise 41", "Behind how many days (0 to 400), as they pass by days(), ALL of an account is so many cents at least", """
            book "price A 3100;rest A 2" -> 2 | begin(0, 0, 1) -> 3100 | use(0, 5) -> 5 | when(0, MIN) -> 0 | when(0, -1) -> 0 | when(0, 0) -> 0 | when(0, 3100) -> 0 | when(0, 3101) -> 31
            when(0, 6210) -> 31 | when(0, 6211) -> 60 | when(0, 43410) -> 397 | when(0, 43411) -> -2 | days(24) -> 24 | when(0, 43410) -> 373 | when(0, 43411) -> -2 | days(1) -> 1
            when(0, 43410) -> 372 | when(0, 43411) -> 400 | when(0, 46510) -> 400 | when(0, 46511) -> -2
            """);
        s.test("Promise 41", "-2: by none of these", """
            begin(0, 0, 1) -> 0 | when(0, 0) -> 0 | when(0, 1) -> -2 | when(0, MAX) -> -2
            other | book "price F 100" -> 1 | fill 396 | when(4, 200) -> 31 | when(4, 201) -> -2 | giveUp(4) -> -100 | when(4, 0) -> 0 | when(4, 1) -> -2
            """);
        s.test("Promise 41", "as they pass by days()", """
            book "price F 100" -> 1 | fill 398 | when(4, 100) -> 0 | when(4, 101) -> -2 | other | book "price A 3100" -> 1 | 9 * days(400) -> 400 | begin(0, 0, 31) -> 2170 | when(0, 5270) -> 21
            when(0, 5271) -> -2
            """);
        s.test("Promise 41", "NONE: no such account, not begun", """
            when(0, 0) -> -1 | begin(0, 0, 1) -> 0 | when(0, 0) -> 0 | when(-1, 0) -> -1 | when(6, 0) -> -1 | when(1, 0) -> -1 | when(MIN, 0) -> -1 | when(MAX, 0) -> -1
            giveUp(0) -> 0 | when(0, 0) -> 0
            """);
        s.test("Promise 41", "(Nothing stays changed.)", """
            book "price A 3100" -> 1 | begin(0, 0, 1) -> 3100 | keep() -> 1 | use(0, 1) -> 1 | feed(0, 0, 0, 0, 0) -> 20 | when(0, 40000) -> 366 | when(0, 99999) -> -2 | count(0) -> 1
            count(1) -> 0 | count(2) -> 20 | accountIs(0, 7) -> 1 | undo() -> true | accountIs(0, 7) -> 0 | count(0) -> 1
            """);
    }
}
