/** Boundary sentences on accounts, PERIODS and what is done with them: Terms 1 and 2, Promises 1, 4 to 6, 9 to 11, 14, 15 and 30. */
public final class BoundsOfAccountsTest {
    public static void main(String[] args) {
        Script s = Script.running();
        all(s);
        s.end();
    }

    static void all(Script s) {
        fresh(s);
        periods(s);
        worth(s);
        entries(s);
        deeds(s);
        begin(s);
        change(s);
        seats(s);
        pause(s);
        giveUp(s);
        move(s);
        use(s);
        days(s);
        asked(s);
    }

    private static void fresh(Script s) {
        s.test("Promise 1", "DAY 0", "count(1) -> 0 | billIs(2) -> 0 | count(2) -> 0");
        s.test("Promise 1", "an empty BOOK", """
            count(3) -> 0 | billIs(0) -> 0 | billIs(1) -> 0 | billIs(7) -> 0 | billIs(10) -> -2 | plan(0, 0) -> 0 | plan(5, 0) -> 0 | plan(0, 2) -> 0
            plan(0, 30) -> -2 | usage(5, 9999) -> 0
            """);
        s.test("Promise 1", "no accounts", """
            count(0) -> 0 | billIs(4) -> 0 | billIs(5) -> 0 | billIs(6) -> 0 | accountIs(0, 0) -> -1000000 | accountIs(5, 10) -> -1000000 | entry(0, 0) -> -1000000
            undo() -> false
            """);
        s.test("Term 2", "ACCOUNTS 0 to 5, each not begun at first", """
            begin(-1, 0, 1) -> -1 | begin(6, 0, 1) -> -1 | accountIs(0, 10) -> -1000000 | accountIs(5, 10) -> -1000000 | use(0, 1) -> -1 | use(5, 1) -> -1
            begin(0, 0, 1) -> 0 | begin(5, 0, 1) -> 0 | accountIs(0, 10) -> 0 | accountIs(5, 10) -> 0 | accountIs(4, 10) -> -1000000 | accountIs(1, 10) -> -1000000
            """);
    }

    private static void periods(Script s) {
        s.test("Term 2", "PERIODS of an account, numbered from 0: the first one from its beginning to the next TURN, each other one a SPAN", """
            days(5) -> 5 | begin(0, 0, 1) -> 0 | accountIs(0, 2) -> 0 | accountIs(0, 3) -> 5 | accountIs(0, 4) -> 31 | accountIs(0, 5) -> 31
            days(25) -> 25 | accountIs(0, 2) -> 0 | days(1) -> 1 | accountIs(0, 2) -> 1 | accountIs(0, 3) -> 31 | accountIs(0, 4) -> 60 | accountIs(0, 5) -> 29
            # One that begins on a TURN has all of the SPAN.
            begin(1, 0, 1) -> 0 | accountIs(1, 3) -> 31 | accountIs(1, 4) -> 60 | begin(2, 0, 2) -> 0 | accountIs(2, 4) -> 32 | accountIs(2, 5) -> 31
            """);
        s.test("Term 2", "SEATS of an account: 1 to 9 (at first 1)", """
            book "price A 10" -> 1 | begin(0, 0, 1) -> 10 | accountIs(0, 19) -> 1 | seats(0, 0) -> -1000000 | seats(0, 9) -> 80 | accountIs(0, 19) -> 9
            seats(0, 10) -> -1000000 | seats(0, 1) -> -80
            """);
    }

    private static void worth(Script s) {
        s.test("Term 2", "WORTH of an account in a PERIOD: PRICE of its PLAN times SEATS", """
            book "price A 99999" -> 1 | begin(0, 0, 1) -> 99999 | accountIs(0, 6) -> 99999 | seats(0, 9) -> 799992 | accountIs(0, 6) -> 899991
            change(0, 1) -> -899991 | accountIs(0, 6) -> 0
            """);
        s.test("Term 2", "less that times the hundredths of the PLAN's last BULK with no more SEATS than these by 100 (cut; if there is one)", """
            book "price A 333;bulk A 3 7;bulk A 5 50;bulk A 9 100;bulk B 2 100" -> 5 | begin(0, 0, 1) -> 333 | seats(0, 2) -> 333 | accountIs(0, 6) -> 666
            seats(0, 3) -> 264 | accountIs(0, 6) -> 930 | seats(0, 4) -> 309 | accountIs(0, 6) -> 1239 | seats(0, 5) -> -406 | accountIs(0, 6) -> 833
            seats(0, 8) -> 499 | accountIs(0, 6) -> 1332 | seats(0, 9) -> -1332 | accountIs(0, 6) -> 0
            """);
        s.test("Term 2", "less that times LESS by 100 (cut), if the PERIOD's number is below as many as told", """
            book "price A 333;less 50 2;bulk A 2 7" -> 3 | begin(0, 0, 1) -> 167 | accountIs(0, 6) -> 167 | days(31) -> 31 | accountIs(0, 6) -> 167
            # Of two SEATS 666 less 46 are 620.
            seats(0, 2) -> 143 | days(29) -> 29 | accountIs(0, 2) -> 2 | accountIs(0, 6) -> 620 | seats(0, 1) -> -287
            # One that is begun later has its own first PERIODS.
            begin(1, 0, 1) -> 167
            """);
        s.test("Term 2", "if it is PAUSED, that times PAUSE by 100 (cut)", """
            book "price A 333;less 33 1;bulk A 3 7;pause A 50" -> 4 | begin(0, 0, 1) -> 224 | seats(0, 3) -> 400 | accountIs(0, 6) -> 624
            pause(0, true) -> -312 | accountIs(0, 6) -> 312 | days(31) -> 31 | accountIs(0, 6) -> 465 | pause(0, false) -> 465 | accountIs(0, 6) -> 930
            """);
    }

    private static void entries(Script s) {
        s.test("Term 2", "ENTRIES, numbered as they are written, 400 at most", """
            begin(3, 0, 1) -> 0 | entry(0, 1) -> 3 | entry(1, 1) -> -1000000 | begin(1, 0, 1) -> 0 | entry(1, 1) -> 1 | giveUp(3) -> 0 | entry(2, 0) -> 1 | entry(3, 0) -> 2
            fill 400 | count(0) -> 400 | entry(399, 0) -> 0 | entry(400, 0) -> -1000000 | begin(0, 0, 1) -> -3
            # The 400th one is as whole as each other, and counts.
            new | book "price C 3100;tax 0 10" -> 2 | days(32) -> 32 | fill 399 | begin(1, 2, 2) -> 3100 | entry(399, 0) -> 0 | entry(399, 1) -> 1 | entry(399, 2) -> 32
            entry(399, 3) -> 0 | entry(399, 4) -> 32 | entry(399, 5) -> 61 | entry(399, 6) -> 2 | entry(399, 7) -> 3100 | entry(399, 8) -> -2 | entry(399, 9) -> -2
            line 399 "P0 2024-02-02 to 2024-03-02 C charge 31.00" | accountIs(1, 11) -> 1 | accountIs(1, 12) -> 3100 | period(1, 0) -> 3100 | open(399) -> 3100 | owes(1, 1) -> 399
            late(1, 47) -> 3100 | earned(1, 61) -> 3100 | written(32, 32) -> 3100 | tax(399) -> 310 | taxes(1, 10) -> 310 | when(1, 3101) -> -2
            """);
        s.test("Term 2", "of KINDS 0 charge, 1 credit, 2 usage, 3 favour, 4 turned round, 5 fee", """
            book "price A 3100;fee 1" -> 2 | begin(0, 0, 1) -> 3100 | entry(0, 0) -> 0 | days(15) -> 15 | remind(0) -> 31 | entry(1, 0) -> 5
            favour(0, 1) -> 3130 | entry(2, 0) -> 3 | turn(1) -> 3 | entry(3, 0) -> 4 | giveUp(0) -> -1600 | entry(4, 0) -> 1 | entry(5, 0) -> 2
            """);
        s.test("Term 2", "each has the account, TODAY as it is written, the PERIOD's number, from, to (days), the PLAN, cents (credit, favour below 0, or 0)", """
            book "price B 3100" -> 1 | days(31) -> 31 | begin(2, 1, 1) -> 3100 | days(34) -> 34 | count(0) -> 3 | favour(2, 7) -> 6193 | change(2, 0) -> -2600
            entry(4, 0) -> 1 | entry(4, 1) -> 2 | entry(4, 2) -> 65 | entry(4, 3) -> 1 | entry(4, 4) -> 65 | entry(4, 5) -> 91 | entry(4, 6) -> 1 | entry(4, 7) -> -2600
            entry(5, 0) -> 0 | entry(5, 1) -> 2 | entry(5, 2) -> 65 | entry(5, 3) -> 1 | entry(5, 4) -> 65 | entry(5, 5) -> 91 | entry(5, 6) -> 0 | entry(5, 7) -> 0
            entry(3, 2) -> 65 | entry(3, 7) -> -7 | change(2, 1) -> 2600 | entry(6, 7) -> 0
            """);
    }

    private static void deeds(Script s) {
        s.test("Term 2", "BEGIN: with a PLAN, an ANCHOR, from TODAY on: PERIOD 0, a charge of PART of the WORTH from TODAY to the next TURN", """
            book "price A 100;price B 3100" -> 2 | days(4) -> 4 | begin(0, 0, 1) -> 88 | accountIs(0, 0) -> 0 | accountIs(0, 1) -> 1 | accountIs(0, 2) -> 0
            entry(0, 0) -> 0 | entry(0, 2) -> 4 | entry(0, 3) -> 0 | entry(0, 4) -> 4 | entry(0, 5) -> 31 | entry(0, 6) -> 0 | count(0) -> 1
            begin(1, 1, 5) -> 3100 | entry(1, 4) -> 4 | entry(1, 5) -> 35 | begin(2, 1, 6) -> 100 | entry(2, 5) -> 5
            """);
        s.test("Term 2", "CHANGE (another PLAN), SEATS (another number), PAUSE, GO ON (PAUSED no more): a credit of what PART the WORTH has from TODAY "
            + "to the PERIOD's end (its cents turned round), then, by how it is from now on, a charge of PART of the WORTH from TODAY to the end", """
            book "price A 100;price B 200;pause B 10" -> 3 | begin(0, 0, 1) -> 100 | days(10) -> 10 | change(0, 1) -> 68
            entry(1, 0) -> 1 | entry(1, 4) -> 10 | entry(1, 5) -> 31 | entry(1, 6) -> 0 | entry(1, 7) -> -68
            entry(2, 0) -> 0 | entry(2, 4) -> 10 | entry(2, 5) -> 31 | entry(2, 6) -> 1 | entry(2, 7) -> 136
            days(20) -> 20 | seats(0, 2) -> 6 | entry(3, 0) -> 1 | entry(3, 4) -> 30 | entry(3, 7) -> -7 | entry(4, 0) -> 0 | entry(4, 7) -> 13
            pause(0, true) -> -11 | entry(5, 7) -> -13 | entry(6, 7) -> 2 | pause(0, false) -> 11 | entry(7, 7) -> -2 | entry(8, 7) -> 13
            # On a PERIOD's first day all of it.
            days(1) -> 1 | change(0, 0) -> -200 | count(0) -> 13 | entry(11, 7) -> -400 | entry(12, 7) -> 200
            """);
        s.test("Term 2", "GIVE UP: that credit alone, then usage (from the PERIOD's beginning to TODAY, of UNITS, by the PLAN), UNITS are 0; it has ended", """
            book "price A 3100;rest A 2;price B 31" -> 3 | days(3) -> 3 | begin(0, 0, 1) -> 2800 | use(0, 7) -> 7 | days(10) -> 10 | giveUp(0) -> -1786
            count(0) -> 3 | entry(1, 0) -> 1 | entry(1, 4) -> 13 | entry(1, 5) -> 31 | entry(1, 7) -> -1800
            entry(2, 0) -> 2 | entry(2, 4) -> 3 | entry(2, 5) -> 13 | entry(2, 7) -> 14 | accountIs(0, 7) -> 0 | accountIs(0, 10) -> 1
            # Ended on the day on which it began, and without UNITS.
            begin(1, 0, 14) -> 3100 | giveUp(1) -> -3100 | entry(5, 0) -> 2 | entry(5, 4) -> 13 | entry(5, 5) -> 13 | entry(5, 7) -> 0 | days(400) -> 400 | count(0) -> 6
            """);
        s.test("Term 2", "MOVE (another ANCHOR): that credit, that usage, UNITS are 0", """
            book "price A 3100;rest A 2" -> 2 | begin(0, 0, 1) -> 3100 | use(0, 5) -> 5 | days(10) -> 10 | move(0, 15) -> -1690
            entry(1, 0) -> 1 | entry(1, 3) -> 0 | entry(1, 4) -> 10 | entry(1, 5) -> 31 | entry(1, 7) -> -2100
            entry(2, 0) -> 2 | entry(2, 3) -> 0 | entry(2, 4) -> 0 | entry(2, 5) -> 10 | entry(2, 7) -> 10 | accountIs(0, 7) -> 0 | count(0) -> 4
            """);
        s.test("Term 2", "TODAY the next PERIOD begins (to the new ANCHOR's next TURN): its charge, PART of the WORTH in the new ANCHOR's SPAN", """
            book "price A 3100;less 50 1" -> 2 | begin(0, 0, 1) -> 1550 | days(10) -> 10 | move(0, 15) -> -650
            entry(3, 0) -> 0 | entry(3, 3) -> 1 | entry(3, 4) -> 10 | entry(3, 5) -> 14 | entry(3, 7) -> 400
            accountIs(0, 1) -> 15 | accountIs(0, 2) -> 1 | accountIs(0, 3) -> 10 | accountIs(0, 4) -> 14 | accountIs(0, 5) -> 31
            # To a TURN of TODAY: a whole SPAN. A CHANGE is by the new SPAN, too.
            move(0, 11) -> 2700 | accountIs(0, 4) -> 41 | accountIs(0, 5) -> 31 | entry(6, 7) -> 3100 | days(30) -> 30 | change(0, 1) -> -100 | count(0) -> 9
            """);
        s.test("Term 2", "USE: so many units more to UNITS (9999 at most)", """
            begin(0, 0, 1) -> 0 | use(0, 9998) -> 9998 | use(0, 2) -> -3 | use(0, 1) -> 9999 | use(0, 1) -> -3 | use(0, 0) -> 9999 | days(31) -> 31 | use(0, 3) -> 3
            """);
        s.test("Term 2", "A DAY PASSES: TODAY is 1 more; for each account, by number, that has begun and not ended, if its PERIOD ends TODAY: usage of that PERIOD "
            + "(from, to its days; UNITS by the PLAN), UNITS are 0, the next PERIOD begins: its charge", """
            book "price A 3100;price B 2900;rest B 2" -> 3 | begin(4, 0, 1) -> 3100 | begin(1, 1, 1) -> 2900 | begin(2, 0, 1) -> 3100 | begin(3, 0, 2) -> 100 | giveUp(2) -> -3100
            use(1, 6) -> 6 | days(1) -> 1 | count(1) -> 1 | count(0) -> 8 | entry(6, 1) -> 3 | days(29) -> 29 | count(0) -> 8 | accountIs(1, 7) -> 6 | days(1) -> 1 | count(0) -> 12
            entry(8, 1) -> 1 | entry(8, 0) -> 2 | entry(8, 2) -> 31 | entry(8, 3) -> 0 | entry(8, 4) -> 0 | entry(8, 5) -> 31 | entry(8, 6) -> 1 | entry(8, 7) -> 12
            entry(9, 1) -> 1 | entry(9, 0) -> 0 | entry(9, 2) -> 31 | entry(9, 3) -> 1 | entry(9, 4) -> 31 | entry(9, 5) -> 60 | entry(9, 6) -> 1 | entry(9, 7) -> 2900
            entry(10, 1) -> 4 | entry(10, 0) -> 2 | entry(10, 7) -> 0 | entry(11, 1) -> 4 | entry(11, 0) -> 0 | entry(11, 7) -> 3100 | accountIs(1, 7) -> 0 | accountIs(1, 2) -> 1
            # A PAUSED one's PERIODS end, too, with the UNITS of before.
            use(1, 4) -> 4 | pause(1, true) -> -2900 | days(29) -> 29 | accountIs(1, 14) -> 20 | accountIs(1, 2) -> 2 | accountIs(1, 9) -> 1 | accountIs(2, 2) -> 0
            """);
    }

    private static void begin(Script s) {
        s.test("Promise 4", "BEGIN: cents of the charge", """
            book "price A 3100" -> 1 | begin(0, 0, 1) -> 3100 | begin(1, 1, 1) -> 0 | days(30) -> 30 | begin(2, 0, 1) -> 100 | entry(2, 7) -> 100
            """);
        s.test("Promise 4", "-3: there are 400 ENTRIES", """
            fill 399 | begin(0, 0, 1) -> 0 | count(0) -> 400 | begin(1, 0, 1) -> -3 | begin(0, 0, 1) -> -3 | begin(6, 0, 1) -> -1
            """);
        s.test("Promise 4", "-4: it has begun (or ended)", """
            begin(0, 0, 1) -> 0 | begin(0, 0, 1) -> -4 | begin(0, 5, 31) -> -4 | giveUp(0) -> 0 | begin(0, 0, 1) -> -4 | days(40) -> 40 | begin(0, 1, 2) -> -4
            begin(0, 6, 1) -> -1 | begin(0, 0, 32) -> -1
            """);
        s.test("Promise 4", "-5: the PERIOD would end behind DAY 3652", """
            9 * days(400) -> 400 | days(21) -> 21 | begin(0, 0, 31) -> 0 | accountIs(0, 4) -> 3652 | giveUp(0) -> 0 | days(1) -> 1
            begin(1, 0, 1) -> -5 | begin(1, 0, 30) -> 0 | accountIs(1, 4) -> 3651 | begin(2, 0, 31) -> 0 | accountIs(2, 4) -> 3652 | begin(1, 0, 1) -> -4
            giveUp(1) -> 0 | giveUp(2) -> 0 | days(29) -> 29 | begin(3, 0, 30) -> -5 | begin(3, 0, 31) -> 0 | giveUp(3) -> 0 | days(1) -> 1 | count(1) -> 3652
            begin(4, 0, 31) -> -5 | begin(4, 0, 1) -> -5
            """);
        s.test("Promise 4", "NONE: no such ones", """
            begin(-1, 0, 1) -> -1 | begin(6, 0, 1) -> -1 | begin(0, -1, 1) -> -1 | begin(0, 6, 1) -> -1 | begin(0, 0, 0) -> -1 | begin(0, 0, 32) -> -1
            begin(MIN, 0, 1) -> -1 | begin(MAX, 0, 1) -> -1 | begin(0, MIN, 1) -> -1 | begin(0, MAX, 1) -> -1 | begin(0, 0, MIN) -> -1 | begin(0, 0, MAX) -> -1
            begin(0, 0, 1) -> 0 | begin(5, 5, 31) -> 0
            """);
    }

    private static void change(Script s) {
        s.test("Promise 5", "CHANGE: by how much ALL is more", """
            book "price A 3100;price B 6200;price C 3100" -> 3 | begin(0, 0, 1) -> 3100 | days(10) -> 10 | change(0, 1) -> 2100 | accountIs(0, 8) -> 5200
            change(0, 3) -> -4200 | accountIs(0, 8) -> 1000 | change(0, 0) -> 2100 | change(0, 2) -> 0 | accountIs(0, 0) -> 2 | days(20) -> 20 | change(0, 1) -> 100
            """);
        s.test("Promise 5", "-1000000: it has not begun, has ended, no such ones, its own PLAN", """
            change(0, 1) -> -1000000 | begin(0, 0, 1) -> 0 | change(0, 0) -> -1000000 | change(0, -1) -> -1000000 | change(0, 6) -> -1000000 | change(0, 5) -> 0
            change(0, 5) -> -1000000 | change(-1, 1) -> -1000000 | change(6, 1) -> -1000000 | change(MIN, 1) -> -1000000 | change(MAX, 1) -> -1000000
            change(0, MIN) -> -1000000 | change(0, MAX) -> -1000000 | giveUp(0) -> 0 | change(0, 1) -> -1000000
            """);
        s.test("Promise 5", "-1000001: there are more than 398 ENTRIES", """
            begin(0, 0, 1) -> 0 | fill 398 | change(0, 1) -> 0 | count(0) -> 400 | change(0, 2) -> -1000001 | change(0, 1) -> -1000000 | change(1, 0) -> -1000000
            change(0, 6) -> -1000000 | undo() -> false
            """);
        s.test("Promise 5", "more than 398 ENTRIES", "begin(0, 0, 1) -> 0 | fill 399 | change(0, 1) -> -1000001 | change(0, 0) -> -1000000 | count(0) -> 399");
    }

    private static void seats(Script s) {
        s.test("Promise 6", "SEATS: likewise", """
            book "price A 3100;bulk A 9 50" -> 2 | begin(0, 0, 1) -> 3100 | days(10) -> 10 | seats(0, 2) -> 2100 | seats(0, 9) -> 5250 | seats(0, 1) -> -7350
            accountIs(0, 8) -> 3100 | giveUp(0) -> -2100
            """);
        s.test("Promise 6", "likewise", """
            begin(0, 0, 1) -> 0 | fill 398 | seats(0, 2) -> 0 | count(0) -> 400 | seats(0, 3) -> -1000001 | seats(0, 2) -> -1000000 | seats(0, 10) -> -1000000
            """);
        s.test("Promise 6", "SEATS: likewise; -1000000: likewise", "begin(0, 0, 1) -> 0 | fill 399 | seats(0, 2) -> -1000001 | seats(0, 1) -> -1000000 | count(0) -> 399");
        s.test("Promise 6", "-1000000: likewise, as many as it has", """
            seats(0, 2) -> -1000000 | begin(0, 0, 1) -> 0 | seats(0, 1) -> -1000000 | seats(0, 0) -> -1000000 | seats(0, 10) -> -1000000 | seats(0, -1) -> -1000000
            seats(0, 9) -> 0 | seats(0, 9) -> -1000000 | seats(-1, 2) -> -1000000 | seats(6, 2) -> -1000000 | seats(1, 2) -> -1000000 | seats(MIN, 2) -> -1000000
            seats(MAX, 2) -> -1000000 | seats(0, MIN) -> -1000000 | seats(0, MAX) -> -1000000 | seats(0, 1) -> 0 | giveUp(0) -> 0 | seats(0, 2) -> -1000000
            """);
    }

    private static void pause(Script s) {
        s.test("Promise 9", "PAUSE (is), GO ON: likewise", """
            book "price A 3100;pause A 25" -> 2 | begin(0, 0, 1) -> 3100 | days(10) -> 10 | pause(0, true) -> -1575 | accountIs(0, 9) -> 1 | pause(0, false) -> 1575
            accountIs(0, 9) -> 0 | accountIs(0, 8) -> 3100 | fill 398 | pause(0, true) -> -1575 | count(0) -> 400 | pause(0, false) -> -1000001
            pause(0, true) -> -1000000
            """);
        s.test("Promise 9", "GO ON: likewise", "begin(0, 0, 1) -> 0 | fill 399 | pause(0, true) -> -1000001 | pause(0, false) -> -1000000 | count(0) -> 399");
        s.test("Promise 9", "-1000000: likewise, it is so already", """
            pause(0, true) -> -1000000 | pause(0, false) -> -1000000 | begin(0, 0, 1) -> 0 | pause(0, false) -> -1000000 | pause(0, true) -> 0 | pause(0, true) -> -1000000
            pause(-1, true) -> -1000000 | pause(6, true) -> -1000000 | pause(1, true) -> -1000000 | pause(MIN, true) -> -1000000 | pause(MAX, false) -> -1000000
            giveUp(0) -> 0 | pause(0, false) -> -1000000 | pause(0, true) -> -1000000
            """);
    }

    private static void giveUp(Script s) {
        s.test("Promise 10", "GIVE UP: likewise", """
            book "price A 3100;rest A 2" -> 2 | giveUp(0) -> -1000000 | begin(0, 0, 1) -> 3100 | use(0, 7) -> 7 | days(10) -> 10 | giveUp(0) -> -2086 | accountIs(0, 8) -> 1014
            giveUp(0) -> -1000000 | giveUp(-1) -> -1000000 | giveUp(6) -> -1000000 | giveUp(1) -> -1000000 | giveUp(MIN) -> -1000000 | giveUp(MAX) -> -1000000
            begin(1, 1, 1) -> 0 | use(1, 3) -> 3 | fill 398 | giveUp(1) -> 0 | count(0) -> 400 | giveUp(1) -> -1000000 | giveUp(5) -> -1000001
            """);
        s.test("Promise 10", "likewise", "begin(0, 0, 1) -> 0 | use(0, 1) -> 1 | fill 399 | giveUp(0) -> -1000001 | accountIs(0, 10) -> 0 | accountIs(0, 7) -> 1 | giveUp(1) -> -1000000");
    }

    private static void move(Script s) {
        s.test("Promise 11", "MOVE: by how much ALL is more", """
            book "price A 3100;rest A 2" -> 2 | begin(0, 0, 1) -> 3100 | use(0, 5) -> 5 | days(10) -> 10 | move(0, 15) -> -1690 | accountIs(0, 8) -> 1410
            move(0, 11) -> 2700 | accountIs(0, 8) -> 4110
            """);
        s.test("Promise 11", "-1000000: it has not begun, has ended, no such ones, its own ANCHOR", """
            move(0, 2) -> -1000000 | begin(0, 0, 1) -> 0 | move(0, 1) -> -1000000 | move(0, 0) -> -1000000 | move(0, 32) -> -1000000 | move(0, 31) -> 0 | move(0, 31) -> -1000000
            move(0, 1) -> 0 | move(-1, 2) -> -1000000 | move(6, 2) -> -1000000 | move(1, 2) -> -1000000 | move(MIN, 2) -> -1000000 | move(MAX, 2) -> -1000000
            move(0, MIN) -> -1000000 | move(0, MAX) -> -1000000 | giveUp(0) -> 0 | move(0, 2) -> -1000000
            """);
        s.test("Promise 11", "-1000001: there are more than 397 ENTRIES", """
            begin(0, 0, 1) -> 0 | fill 397 | move(0, 2) -> 0 | count(0) -> 400 | move(0, 3) -> -1000001 | move(0, 2) -> -1000000 | move(1, 2) -> -1000000
            """);
        s.test("Promise 11", "more than 397 ENTRIES", """
            begin(0, 0, 1) -> 0 | use(0, 1) -> 1 | fill 398 | move(0, 2) -> -1000001 | accountIs(0, 7) -> 1 | move(0, 1) -> -1000000 | count(0) -> 398
            """);
        s.test("Promise 11", "-1000002: the PERIOD would end behind DAY 3652", """
            9 * days(400) -> 400 | days(21) -> 21 | begin(1, 0, 31) -> 0 | move(1, 1) -> 0 | accountIs(1, 4) -> 3622 | giveUp(1) -> 0 | days(1) -> 1 | begin(0, 0, 31) -> 0 | move(0, 1) -> -1000002 | move(0, 30) -> 0 | move(0, 31) -> 0 | accountIs(0, 4) -> 3652
            move(0, 31) -> -1000000 | days(29) -> 29 | move(0, 30) -> -1000002 | move(0, 15) -> -1000002 | count(1) -> 3651 | giveUp(0) -> 0 | move(0, 1) -> -1000000
            """);
        s.test("Promise 11", "; -1000002", """
            # -1000001 stands ahead of -1000002.
            9 * days(400) -> 400 | days(22) -> 22 | begin(0, 0, 31) -> 0 | begin(1, 1, 31) -> 0 | 99 * deeds "change 0 B;change 0 A" -> 2 | count(0) -> 398
            move(0, 1) -> -1000001 | move(0, 30) -> -1000001
            """);
    }

    private static void use(Script s) {
        s.test("Promise 14", "USE: UNITS", "begin(0, 0, 1) -> 0 | use(0, 0) -> 0 | use(0, 5) -> 5 | use(0, 4) -> 9 | accountIs(0, 7) -> 9 | use(0, 0) -> 9");
        s.test("Promise 14", "-2: it is PAUSED", """
            begin(0, 0, 1) -> 0 | use(0, 9) -> 9 | pause(0, true) -> 0 | use(0, 1) -> -2 | use(0, 0) -> -2 | use(0, 99999) -> -2 | use(0, -1) -> -1
            pause(0, false) -> 0 | use(0, 1) -> 10
            """);
        s.test("Promise 14", "-3: they would be more than 9999", """
            begin(0, 0, 1) -> 0 | use(0, 10000) -> -3 | use(0, 9999) -> 9999 | use(0, 1) -> -3 | use(0, MAX) -> -3 | use(0, 0) -> 9999 | begin(1, 0, 1) -> 0 | use(1, 9999) -> 9999
            """);
        s.test("Promise 14", "NONE: no such account, not begun, ended, units below 0", """
            use(0, 1) -> -1 | begin(0, 0, 1) -> 0 | use(0, -1) -> -1 | use(0, MIN) -> -1 | use(-1, 1) -> -1 | use(6, 1) -> -1 | use(1, 1) -> -1 | use(MIN, 1) -> -1
            use(MAX, 1) -> -1 | pause(0, true) -> 0 | giveUp(0) -> 0 | use(0, 1) -> -1 | use(0, 0) -> -1
            """);
    }

    private static void days(Script s) {
        s.test("Promise 15", "DAYS pass (1 to 400)", """
            days(0) -> -1 | days(1) -> 1 | days(400) -> 400 | days(401) -> -1 | count(1) -> 401
            """);
        s.test("Promise 15", ", one by one, till so many have", """
            begin(0, 0, 1) -> 0 | days(30) -> 30 | count(0) -> 1 | days(1) -> 1 | count(0) -> 3 | days(60) -> 60 | count(0) -> 7 | entry(6, 2) -> 91 | entry(4, 2) -> 60
            """);
        s.test("Promise 15", ", or with the next one there would be more than 400 ENTRIES", """
            # Two accounts turn on DAY 31, and then on DAY 60.
            fill 396 | days(400) -> 59 | count(0) -> 400 | days(1) -> 0 | giveUp(5) -> -1000001
            """);
        s.test("Promise 15", "there would be more than 400 ENTRIES", """
            # With 398 one of the two would find room, and none turns.
            fill 398 | days(400) -> 30 | count(0) -> 398 | days(1) -> 0 | accountIs(4, 2) -> 0
            """);
        s.test("Promise 15", "more than 400 ENTRIES", """
            # One account turns; when it has ended nothing is written any more.
            fill 397 | days(400) -> 59 | count(0) -> 399 | days(400) -> 0 | begin(0, 0, 5) -> 0 | days(400) -> 0 | count(0) -> 400
            """);
        s.test("Promise 15", "with the next one", "fill 397 | giveUp(5) -> 0 | count(0) -> 399 | days(400) -> 400 | begin(0, 0, 1) -> 0 | count(0) -> 400");
        s.test("Promise 15", "TODAY be above 3652", """
            9 * days(400) -> 400 | days(51) -> 51 | days(2) -> 1 | count(1) -> 3652 | days(1) -> 0 | days(400) -> 0
            """);
        s.test("Promise 15", "or a PERIOD end behind DAY 3652", """
            begin(0, 0, 31) -> 0 | 9 * days(400) -> 400 | days(400) -> 51 | count(1) -> 3651 | accountIs(0, 4) -> 3652 | days(1) -> 0 | giveUp(0) -> 0 | days(2) -> 1
            """);
        s.test("Promise 15", "a PERIOD end behind DAY 3652", """
            9 * days(400) -> 400 | begin(0, 0, 1) -> 0 | begin(1, 0, 31) -> 0 | days(400) -> 21 | count(1) -> 3621 | accountIs(1, 4) -> 3652 | accountIs(0, 4) -> 3622
            days(1) -> 0 | move(0, 15) -> 0 | days(400) -> 14 | count(1) -> 3635
            """);
        s.test("Promise 15", ": how many passed", "days(7) -> 7 | 9 * days(400) -> 400 | days(400) -> 45 | days(400) -> 0");
        s.test("Promise 15", "NONE: no such number", "days(0) -> -1 | days(-1) -> -1 | days(401) -> -1 | days(MIN) -> -1 | days(MAX) -> -1 | 9 * days(400) -> 400 | days(52) -> 52 | days(0) -> -1 | days(401) -> -1");
    }

    private static void asked(Script s) {
        s.test("Promise 30", "Of an account that has begun, what 0 PLAN, 1 ANCHOR, 2 its PERIOD's number, 3 the PERIOD's first day, 4 its end (the next TURN), "
            + "5 LENGTH of the SPAN, 6 WORTH, 7 UNITS, 8 ALL, 9 whether PAUSED, 10 ended (1, 0), 11 ENTRIES", """
            book "price B 3100;less 50 1;pause B 50" -> 3 | days(10) -> 10 | begin(0, 1, 15) -> 200 | accountIs(0, 0) -> 1 | accountIs(0, 1) -> 15 | accountIs(0, 2) -> 0
            accountIs(0, 3) -> 10 | accountIs(0, 4) -> 14 | accountIs(0, 5) -> 31 | accountIs(0, 6) -> 1550 | accountIs(0, 7) -> 0 | accountIs(0, 8) -> 200 | accountIs(0, 9) -> 0
            accountIs(0, 10) -> 0 | accountIs(0, 11) -> 1 | use(0, 3) -> 3 | begin(1, 0, 1) -> 0 | days(4) -> 4 | accountIs(0, 2) -> 1 | accountIs(0, 3) -> 14 | accountIs(0, 4) -> 45
            accountIs(0, 6) -> 3100 | accountIs(0, 7) -> 0 | accountIs(0, 8) -> 3300 | accountIs(0, 11) -> 3 | accountIs(1, 11) -> 1 | pause(0, true) -> -1550 | accountIs(0, 9) -> 1
            accountIs(0, 6) -> 1550 | accountIs(1, 9) -> 0 | accountIs(1, 6) -> 0 | accountIs(1, 8) -> 0
            """);
        s.test("Promise 30", ", 12 cents of charges, 13 of credits, 14 of usages, 15 of favours, 16 of turned ones, 17 of fees, 18 PAID, 19 SEATS", """
            book "price A 3100;rest A 2;fee 1" -> 3 | begin(0, 0, 1) -> 3100 | begin(1, 0, 1) -> 3100 | accountIs(0, 12) -> 3100 | accountIs(0, 13) -> 0 | accountIs(0, 14) -> 0
            accountIs(0, 15) -> 0 | accountIs(0, 16) -> 0 | accountIs(0, 17) -> 0 | accountIs(0, 18) -> 0 | accountIs(0, 19) -> 1 | use(0, 5) -> 5 | days(31) -> 31 | remind(0) -> 31 | favour(0, 7) -> 6234 | seats(0, 2) -> 3100
            turn(7) -> 10 | turn(2) -> 11 | pay(0, 44) -> 44
            accountIs(0, 12) -> 12400 | accountIs(0, 13) -> -3100 | accountIs(0, 14) -> 10 | accountIs(0, 15) -> -7 | accountIs(0, 16) -> -3
            accountIs(0, 17) -> 31 | accountIs(0, 18) -> 44 | accountIs(0, 19) -> 2 | accountIs(1, 12) -> 6200 | accountIs(1, 18) -> 0 | accountIs(1, 19) -> 1
            """);
        s.test("Promise 30", "-1000000: no such ones", """
            accountIs(0, 0) -> -1000000 | begin(0, 0, 1) -> 0 | accountIs(0, -1) -> -1000000 | accountIs(0, 0) -> 0 | accountIs(0, 19) -> 1 | accountIs(0, 20) -> -1000000
            accountIs(-1, 0) -> -1000000 | accountIs(6, 0) -> -1000000 | accountIs(1, 0) -> -1000000 | accountIs(MIN, 0) -> -1000000 | accountIs(MAX, 0) -> -1000000
            accountIs(0, MIN) -> -1000000 | accountIs(0, MAX) -> -1000000 | accountIs(1, 12) -> -1000000 | accountIs(6, 11) -> -1000000
            """);
        s.test("Promise 30", "(Ended: as it was then.)", """
            book "price B 3100;pause B 10;rest B 2;less 50 1" -> 4 | begin(0, 1, 5) -> 200 | seats(0, 2) -> 200 | use(0, 4) -> 4 | days(9) -> 9 | pause(0, true) -> -4680
            giveUp(0) -> -520 | days(100) -> 100 | accountIs(0, 0) -> 1 | accountIs(0, 1) -> 5 | accountIs(0, 2) -> 1 | accountIs(0, 3) -> 4 | accountIs(0, 4) -> 35
            accountIs(0, 5) -> 31 | accountIs(0, 6) -> 620 | accountIs(0, 7) -> 0 | accountIs(0, 9) -> 1 | accountIs(0, 10) -> 1 | accountIs(0, 19) -> 2
            """);
    }
}
