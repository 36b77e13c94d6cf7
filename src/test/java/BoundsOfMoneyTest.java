/** Boundary sentences on ENTRIES and cents: Term 2, Promises 7, 8, 16 to 24 and 35 to 37. */
public final class BoundsOfMoneyTest {
    private static final String PAYS = Checks.times(16, "pay 0 99999");

    public static void main(String[] args) {
        Script s = Script.running();
        all(s);
        s.end();
    }

    static void all(Script s) {
        taxes(s);
        favour(s);
        pay(s);
        cover(s);
        late(s);
        remind(s);
        open(s);
        earned(s);
        written(s);
        turn(s);
        entry(s);
        line(s);
        period(s);
    }

    private static void taxes(Script s) {
        s.test("Term 2", "RATE of a DAY: the hundredths of the last TAX with no later DAY (0 without)", """
            book "price A 3100;tax 5 20;tax 10 30" -> 3 | days(4) -> 4 | begin(0, 0, 1) -> 2700 | days(1) -> 1 | begin(1, 0, 1) -> 2600 | days(4) -> 4
            begin(2, 0, 1) -> 2200 | days(1) -> 1 | begin(3, 0, 1) -> 2100 | tax(0) -> 0 | tax(1) -> 520 | tax(2) -> 440 | tax(3) -> 630
            taxes(0, 0) -> 0 | taxes(1, 20) -> 520 | taxes(2, 20) -> 440 | taxes(3, 30) -> 630 | taxes(3, 20) -> 0
            """);
        s.test("Term 2", "RATE of a DAY", """
            # Without a TAX, and on the first and the last of days.
            book "price A 3100" -> 1 | begin(0, 0, 1) -> 3100 | tax(0) -> 0 | other | book "price A 3100;tax 0 100" -> 2 | begin(0, 0, 1) -> 3100 | tax(0) -> 3100
            """);
        s.test("Term 2", "TAX of an ENTRY: with N the RATE of the day on which it was written: cents of all ENTRIES of its account with as great a RATE up to it "
            + "together times N by 100 (cut towards 0), less that of those ahead of it", """
            book "price A 155;tax 0 10;tax 10 0;tax 20 10" -> 4 | begin(0, 0, 1) -> 155 | begin(1, 0, 1) -> 155 | tax(0) -> 15 | tax(1) -> 15 | days(10) -> 10
            favour(0, 1) -> 154 | tax(2) -> 0 | days(10) -> 10 | change(0, 1) -> -55 | tax(3) -> -5 | tax(4) -> 0 | days(11) -> 11 | tax(5) -> 0 | tax(7) -> 0 | tax(8) -> 16
            # 33, -33, 66, 0, 66 by 10: 3, 0, 6, 6, 13.
            other | book "price A 33;price B 66;tax 0 10" -> 3 | begin(0, 0, 1) -> 33 | change(0, 1) -> 33 | days(31) -> 31 | tax(0) -> 3 | tax(1) -> -3 | tax(2) -> 6
            tax(3) -> 0 | tax(4) -> 7
            # 15, 20, 35 by 10 are 1, 2, 3, each up to the one ahead of it.
            new | book "price A 15;rest A 1;tax 0 10" -> 3 | begin(0, 0, 1) -> 15 | use(0, 5) -> 5 | days(31) -> 31 | tax(0) -> 1 | tax(1) -> 1 | tax(2) -> 1 | taxes(0, 10) -> 3
            # 9, 18, 27 by 10 are 0, 1, 2; 10 and 20 are 1 and 2.
            new | book "price A 9;price B 10;tax 0 10" -> 3 | begin(0, 0, 1) -> 9 | begin(1, 1, 1) -> 10 | days(60) -> 60 | tax(0) -> 0 | tax(1) -> 1 | tax(2) -> 0 | tax(3) -> 1
            tax(5) -> 1 | tax(7) -> 1 | tax(9) -> 1
            """);
        s.test("Term 2", "(cut towards 0), less that of those ahead of it", """
            # A credit of 28 alone: -2.8.
            book "price A 33;tax 5 10" -> 2 | begin(0, 0, 1) -> 33 | days(5) -> 5 | giveUp(0) -> -28 | tax(0) -> 0 | tax(1) -> -2 | tax(2) -> 0 | taxes(0, 10) -> -2
            """);
        s.test("Promise 7", "TAX of an ENTRY", "book \"price A 3100;tax 0 19\" -> 2 | begin(0, 0, 1) -> 3100 | tax(0) -> 589 | turn(0) -> 1 | tax(1) -> -589");
        s.test("Promise 7", "-1000000: no such ENTRY", """
            tax(0) -> -1000000 | begin(0, 0, 1) -> 0 | tax(-1) -> -1000000 | tax(0) -> 0 | tax(1) -> -1000000 | tax(MIN) -> -1000000 | tax(MAX) -> -1000000
            fill 400 | tax(399) -> 0 | tax(400) -> -1000000
            """);
        s.test("Promise 8", "TAXES of all of an account's ENTRIES of a RATE (0 to 100) together", """
            book "price A 155;tax 0 10;tax 20 0;tax 31 100" -> 4 | begin(0, 0, 1) -> 155 | begin(1, 0, 1) -> 155 | days(10) -> 10 | favour(0, 106) -> 49 | taxes(0, 10) -> 4
            taxes(1, 10) -> 15 | taxes(0, 0) -> 0 | taxes(0, 100) -> 0 | taxes(0, 50) -> 0 | days(21) -> 21 | taxes(0, 100) -> 155 | taxes(0, 10) -> 4 | taxes(0, 0) -> 0
            taxes(0, -1) -> -1000000 | taxes(0, 101) -> -1000000
            """);
        s.test("Promise 8", "-1000000: no such ones (not begun)", """
            taxes(0, 0) -> -1000000 | begin(0, 0, 1) -> 0 | taxes(0, 0) -> 0 | taxes(0, 100) -> 0 | taxes(0, -1) -> -1000000 | taxes(0, 101) -> -1000000 | taxes(1, 0) -> -1000000
            taxes(-1, 0) -> -1000000 | taxes(6, 0) -> -1000000 | taxes(MIN, 0) -> -1000000 | taxes(MAX, 0) -> -1000000 | taxes(0, MIN) -> -1000000 | taxes(0, MAX) -> -1000000
            giveUp(0) -> 0 | taxes(0, 0) -> 0
            """);
    }

    private static void favour(Script s) {
        s.test("Term 2", "FAVOUR: so many cents to an account, no more than ALL of its cents together (below 0 as an ENTRY; from and to TODAY, "
            + "by its PERIOD and PLAN as they are)", """
            book "price A 3100;price B 31" -> 2 | begin(0, 0, 1) -> 3100 | change(0, 1) -> -3069 | days(40) -> 40 | accountIs(0, 8) -> 62 | favour(0, 63) -> -1000000
            favour(0, 62) -> 0 | entry(5, 0) -> 3 | entry(5, 1) -> 0 | entry(5, 2) -> 40 | entry(5, 3) -> 1 | entry(5, 4) -> 40 | entry(5, 5) -> 40 | entry(5, 6) -> 1
            entry(5, 7) -> -62 | favour(0, 1) -> -1000000 | pay(0, 99) -> 99 | favour(0, 1) -> -1000000
            """);
        s.test("Term 2", "ALL: cents of all ENTRIES of an account together", """
            book "price A 3100;rest A 2;fee 10" -> 3 | begin(0, 0, 1) -> 3100 | begin(1, 0, 1) -> 3100 | use(0, 4) -> 4 | days(31) -> 31 | remind(0) -> 310 | favour(0, 8) -> 6510
            turn(0) -> 8 | accountIs(0, 8) -> 3410 | pay(0, 5) -> 5 | accountIs(0, 8) -> 3410 | seats(0, 2) -> 3100 | accountIs(0, 8) -> 6510 | accountIs(1, 8) -> 6200
            """);
        s.test("Promise 16", "FAVOUR: ALL", "book \"price A 3100\" -> 1 | begin(0, 0, 1) -> 3100 | favour(0, 1) -> 3099 | favour(0, 3098) -> 1 | favour(0, 1) -> 0 | accountIs(0, 8) -> 0");
        s.test("Promise 16", "-1000000: no such account (not begun), cents below 1, more than ALL", """
            book "price A 3100" -> 1 | favour(0, 1) -> -1000000 | begin(0, 0, 1) -> 3100 | favour(0, 0) -> -1000000 | favour(0, -1) -> -1000000 | favour(0, MIN) -> -1000000
            favour(0, 3101) -> -1000000 | favour(0, MAX) -> -1000000 | favour(-1, 1) -> -1000000 | favour(6, 1) -> -1000000 | favour(1, 1) -> -1000000 | favour(MIN, 1) -> -1000000
            favour(MAX, 1) -> -1000000 | favour(0, 1) -> 3099 | giveUp(0) -> -3100 | accountIs(0, 8) -> -1 | favour(0, 1) -> -1000000
            # An ended account has ALL of its cents, too.
            begin(1, 0, 1) -> 3100 | days(10) -> 10 | giveUp(1) -> -2100 | favour(1, 1001) -> -1000000 | favour(1, 1000) -> 0
            """);
        s.test("Promise 16", "-1000001: there are 400 ENTRIES", """
            book "price A 3100" -> 1 | begin(0, 0, 1) -> 3100 | fill 399 | favour(0, 1) -> 3099 | count(0) -> 400 | favour(0, 1) -> -1000001 | favour(0, 3100) -> -1000000
            favour(0, 0) -> -1000000 | favour(1, 1) -> -1000000
            """);
    }

    private static void pay(Script s) {
        s.test("Term 2", "PAID: cents that were paid by an account (0 at first)", """
            begin(0, 0, 1) -> 0 | begin(1, 0, 1) -> 0 | accountIs(0, 18) -> 0 | pay(0, 5) -> 5 | pay(0, 6) -> 11 | accountIs(0, 18) -> 11 | accountIs(1, 18) -> 0 | accountIs(0, 8) -> 0
            count(0) -> 2
            """);
        s.test("Promise 17", "So many cents are paid (1 to 999999; 99999999 in all at most): PAID", """
            begin(0, 0, 1) -> 0 | pay(0, 0) -> -1 | pay(0, 1) -> 1 | pay(0, 999999) -> 1000000 | pay(0, 1000000) -> -1 | giveUp(0) -> 0 | pay(0, 1) -> 1000001
            other | begin(0, 0, 1) -> 0 | 62 * deeds "%s" -> 16 | accountIs(0, 18) -> 99199008 | pay(0, 800992) -> -1 | pay(0, 800991) -> 99999999 | pay(0, 1) -> -1
            # So much by each account.
            begin(1, 0, 1) -> 0 | pay(1, 999999) -> 999999
            """.formatted(PAYS));
        s.test("Promise 17", "NONE: no such account (not begun), cents, more than that", """
            pay(0, 1) -> -1 | begin(0, 0, 1) -> 0 | pay(-1, 1) -> -1 | pay(6, 1) -> -1 | pay(1, 1) -> -1 | pay(MIN, 1) -> -1 | pay(MAX, 1) -> -1 | pay(0, -1) -> -1
            pay(0, MIN) -> -1 | pay(0, MAX) -> -1 | 62 * deeds "%s" -> 16 | pay(0, 800990) -> 99999998 | pay(0, 2) -> -1 | pay(0, MAX) -> -1 | pay(0, 1) -> 99999999
            """.formatted(PAYS));
    }

    private static void cover(Script s) {
        s.test("Term 2", "COVER: PAID and all cents of its ENTRIES below 0 (without their signs) together cover its ENTRIES above 0, by their numbers, the first one first, "
            + "each as far as there is something left", """
            book "price A 100" -> 1 | begin(1, 0, 1) -> 100 | begin(0, 0, 1) -> 100 | days(60) -> 60 | count(0) -> 10 | pay(0, 99) -> 99 | open(1) -> 1 | open(3) -> 100 | open(7) -> 100
            pay(0, 1) -> 100 | open(1) -> 0 | open(3) -> 100 | pay(0, 1) -> 101 | open(3) -> 99 | favour(0, 100) -> 200 | open(3) -> 0 | open(7) -> 99 | owes(0, 3) -> 0
            # A credit written last covers the first ones; 1 of it is left for its own charge.
            seats(0, 2) -> 100 | open(7) -> 0 | open(12) -> 199 | pay(0, 199) -> 300 | open(12) -> 0 | owes(0, 3) -> 0 | pay(0, 7) -> 307 | owes(0, 3) -> 7
            # Of the other account nothing is covered.
            open(0) -> 100 | open(5) -> 100 | open(9) -> 100 | owes(1, 2) -> 300 | owes(1, 3) -> 0
            # A usage and a charge one behind the other, between those of accounts with other cents.
            new | book "price A 100;rest A 1;price B 7;price C 1" -> 4 | begin(2, 2, 1) -> 1 | begin(0, 0, 1) -> 100 | begin(1, 1, 1) -> 7 | use(0, 50) -> 50 | days(31) -> 31
            pay(0, 120) -> 120 | open(1) -> 0 | open(3) -> 30 | open(4) -> 100 | pay(0, 31) -> 151 | open(3) -> 0 | open(4) -> 99 | open(0) -> 1 | open(2) -> 7 | open(6) -> 7
            pay(1, 8) -> 8 | open(2) -> 0 | open(6) -> 6 | open(8) -> 1 | owes(0, 2) -> 99 | owes(1, 2) -> 6 | owes(2, 2) -> 2
            """);
        s.test("Term 2", "OPEN of an ENTRY: of its cents what is not covered", """
            book "price A 1" -> 1 | begin(0, 0, 1) -> 1 | open(0) -> 1 | owes(0, 0) -> 1 | pay(0, 1) -> 1 | open(0) -> 0 | owes(0, 0) -> 0 | pay(0, 1) -> 2 | open(0) -> 0
            days(31) -> 31 | open(2) -> 0 | days(29) -> 29 | open(4) -> 1
            """);
    }

    private static void late(Script s) {
        s.test("Term 2", "DUE is an ENTRY 14 days behind the day on which it was written", """
            book "price A 3100" -> 1 | days(3) -> 3 | begin(0, 0, 1) -> 2800 | late(0, 17) -> 0 | late(0, 18) -> 2800
            """);
        s.test("Term 2", "LATE on a day: OPEN cents of ENTRIES that were DUE ahead of that day, together", """
            book "price A 3100;price B 6200" -> 2 | begin(0, 0, 1) -> 3100 | begin(1, 0, 1) -> 3100 | late(0, 14) -> 0 | late(0, 15) -> 3100 | days(10) -> 10 | change(0, 1) -> 2100
            late(0, 14) -> 0 | late(0, 15) -> 1000 | late(0, 24) -> 1000 | late(0, 25) -> 5200 | pay(0, 999) -> 999 | late(0, 15) -> 1 | pay(0, 1) -> 1000 | late(0, 15) -> 0
            late(0, 25) -> 4200 | late(1, 15) -> 3100
            """);
        s.test("Promise 19", "LATE on a day (TODAY to 3652, as all is now)", """
            book "price A 3100" -> 1 | begin(0, 0, 1) -> 3100 | late(0, 0) -> 0 | late(0, -1) -> -1000000 | days(15) -> 15 | late(0, 14) -> -1000000 | late(0, 15) -> 3100
            late(0, 3652) -> 3100 | late(0, 3653) -> -1000000 | late(0, 60) -> 3100 | giveUp(0) -> -1600 | late(0, 3652) -> 1500
            """);
        s.test("Promise 19", "-1000000: no such ones (not begun)", """
            late(0, 0) -> -1000000 | begin(0, 0, 1) -> 0 | late(0, 0) -> 0 | late(-1, 0) -> -1000000 | late(6, 0) -> -1000000 | late(1, 0) -> -1000000 | late(MIN, 0) -> -1000000
            late(MAX, 0) -> -1000000 | late(0, MIN) -> -1000000 | late(0, MAX) -> -1000000
            """);
    }

    private static void remind(Script s) {
        s.test("Term 2", "REMINDED: an ENTRY of KIND 5 of LATE (TODAY) times FEE by 100 (cut; 99999 at most), from and to TODAY, by its PERIOD and PLAN as they are", """
            book "price A 3150;fee 5;price B 3150" -> 3 | begin(0, 0, 1) -> 3150 | change(0, 1) -> 0 | days(33) -> 33 | remind(0) -> 157 | entry(5, 0) -> 5 | entry(5, 1) -> 0
            entry(5, 2) -> 33 | entry(5, 3) -> 1 | entry(5, 4) -> 33 | entry(5, 5) -> 33 | entry(5, 6) -> 1 | entry(5, 7) -> 157
            """);
        s.test("Term 2", "(cut; 99999 at most)", """
            book "price A 55554;price B 55555;price C 55556;price D 99999;fee 20" -> 5 | begin(0, 0, 1) -> 55554 | begin(1, 1, 1) -> 55555 | begin(2, 2, 1) -> 55556 | begin(3, 3, 1) -> 99999
            seats(0, 9) -> 444432 | seats(1, 9) -> 444440 | seats(2, 9) -> 444448 | seats(3, 9) -> 799992 | days(15) -> 15 | remind(0) -> 99997 | remind(1) -> 99999
            remind(2) -> 99999 | remind(3) -> 99999
            new | book "price A 19;price B 20;fee 5" -> 3 | begin(0, 0, 1) -> 19 | begin(1, 1, 1) -> 20 | days(15) -> 15 | remind(0) -> 0 | remind(1) -> 1
            """);
        s.test("Term 2", "not if LATE is 0, or an ENTRY of KIND 5 of it was written TODAY", """
            book "price A 100;price B 1;fee 20" -> 3 | begin(0, 0, 1) -> 100 | begin(1, 1, 1) -> 1 | begin(2, 2, 1) -> 0 | days(14) -> 14 | remind(0) -> -2 | days(1) -> 1 | remind(0) -> 20
            remind(0) -> -4 | remind(1) -> 0 | count(0) -> 5 | remind(1) -> -4 | remind(2) -> -2 | turn(3) -> 5 | remind(0) -> -4 | days(1) -> 1 | remind(0) -> 16 | remind(0) -> -4
            """);
        s.test("Promise 18", "REMINDED: cents of the ENTRY", "book \"price A 3150;fee 5\" -> 2 | begin(0, 0, 1) -> 3150 | days(15) -> 15 | remind(0) -> 157 | entry(1, 7) -> 157 | giveUp(0) -> -1626 | days(1) -> 1 | remind(0) -> 76");
        s.test("Promise 18", "-2: LATE is 0", """
            book "price A 3100;fee 5" -> 2 | begin(0, 0, 1) -> 3100 | remind(0) -> -2 | days(14) -> 14 | remind(0) -> -2 | days(1) -> 1 | pay(0, 3099) -> 3099 | keep() -> 1
            pay(0, 1) -> 3100 | remind(0) -> -2 | undo() -> true | remind(0) -> 0 | count(0) -> 2
            """);
        s.test("Promise 18", "-3: there are 400 ENTRIES", """
            book "price A 3100;fee 5" -> 2 | begin(0, 0, 1) -> 3100 | begin(1, 0, 1) -> 3100 | days(15) -> 15 | fill 399 | remind(0) -> 155 | count(0) -> 400 | remind(1) -> -3
            # -2 ahead of -3 ahead of -4.
            remind(0) -> -3 | pay(0, 3100) -> 3100 | remind(0) -> -2 | remind(2) -> -1
            """);
        s.test("Promise 18", "-4: one was written TODAY", """
            book "price A 3100;fee 5" -> 2 | begin(0, 0, 1) -> 3100 | begin(1, 0, 1) -> 3100 | days(15) -> 15 | remind(0) -> 155 | remind(0) -> -4 | remind(1) -> 155 | turn(2) -> 4
            remind(0) -> -4 | days(1) -> 1 | remind(0) -> 147 | pay(0, 3100) -> 3100 | remind(0) -> -2
            """);
        s.test("Promise 18", "NONE: no such account (not begun)", "remind(0) -> -1 | begin(0, 0, 1) -> 0 | remind(0) -> -2 | remind(-1) -> -1 | remind(6) -> -1 | remind(1) -> -1 | remind(MIN) -> -1 | remind(MAX) -> -1");
    }

    private static void open(Script s) {
        s.test("Promise 20", "OPEN of an ENTRY (0 of one that is not above 0)", """
            book "price A 100;price B 1" -> 2 | begin(0, 0, 1) -> 100 | open(0) -> 100 | favour(0, 30) -> 70 | open(1) -> 0 | open(0) -> 70 | begin(1, 2, 1) -> 0 | open(2) -> 0
            begin(2, 1, 1) -> 1 | open(3) -> 1 | pay(0, 70) -> 70 | open(0) -> 0
            """);
        s.test("Promise 20", "-1000000: no such ENTRY", "open(0) -> -1000000 | begin(0, 0, 1) -> 0 | open(0) -> 0 | open(1) -> -1000000 | open(-1) -> -1000000 | open(MIN) -> -1000000 | open(MAX) -> -1000000 | fill 400 | open(399) -> 0 | open(400) -> -1000000");
        s.test("Promise 21", "Of an account's ENTRIES that are OPEN, what 0 how many, 1 the first (none: -2), 2 OPEN cents together, 3 what is left behind COVER", """
            book "price A 100" -> 1 | begin(1, 1, 1) -> 0 | owes(1, 0) -> 0 | owes(1, 1) -> -2 | owes(1, 2) -> 0 | owes(1, 3) -> 0 | begin(0, 0, 1) -> 100 | days(60) -> 60
            owes(0, 0) -> 3 | owes(0, 1) -> 1 | owes(0, 2) -> 300 | owes(0, 3) -> 0 | pay(0, 99) -> 99 | owes(0, 0) -> 3 | owes(0, 1) -> 1 | owes(0, 2) -> 201
            pay(0, 1) -> 100 | owes(0, 0) -> 2 | owes(0, 1) -> 3 | owes(0, 2) -> 200 | pay(0, 199) -> 299 | owes(0, 0) -> 1 | owes(0, 1) -> 7 | owes(0, 2) -> 1 | owes(0, 3) -> 0
            pay(0, 1) -> 300 | owes(0, 0) -> 0 | owes(0, 1) -> -2 | owes(0, 2) -> 0 | owes(0, 3) -> 0 | pay(0, 1) -> 301 | owes(0, 3) -> 1 | favour(0, 5) -> 295 | owes(0, 3) -> 6
            giveUp(0) -> -100 | owes(0, 3) -> 106 | owes(1, 1) -> -2
            """);
        s.test("Promise 21", "NONE: no such ones (not begun)", """
            owes(0, 0) -> -1 | begin(0, 0, 1) -> 0 | owes(0, -1) -> -1 | owes(0, 0) -> 0 | owes(0, 3) -> 0 | owes(0, 4) -> -1 | owes(-1, 0) -> -1 | owes(6, 0) -> -1 | owes(1, 0) -> -1
            owes(MIN, 0) -> -1 | owes(MAX, 0) -> -1 | owes(0, MIN) -> -1 | owes(0, MAX) -> -1
            """);
    }

    private static void earned(Script s) {
        s.test("Term 2", "EARNED by a day: of each ENTRY of KIND 0 or 1 its cents times how many of its days (from, to) lie ahead of that day by how many there are "
            + "(cut towards 0; of none all of its cents, if it was written ahead of that day)", """
            # No charge and no credit is of no days: an account's PERIOD ends behind TODAY as long as it has not ended.
            book "price A 100;price B 50" -> 2 | begin(0, 0, 1) -> 100 | earned(0, 0) -> 0 | earned(0, 1) -> 3 | earned(0, 30) -> 96 | earned(0, 31) -> 100 | earned(0, 32) -> 100
            days(10) -> 10 | change(0, 1) -> -34 | entry(1, 7) -> -68 | entry(2, 7) -> 34 | earned(0, 9) -> 29 | earned(0, 10) -> 32 | earned(0, 11) -> 33 | earned(0, 20) -> 48
            earned(0, 30) -> 64 | earned(0, 31) -> 66 | earned(0, 3653) -> 66 | days(20) -> 20 | giveUp(0) -> -2 | earned(0, 30) -> 64 | earned(0, 31) -> 64
            # A part of a SPAN is earned over its own days alone.
            book "x" -> -3 | begin(1, 0, 2) -> 7 | entry(5, 4) -> 30 | entry(5, 5) -> 32 | earned(1, 30) -> 0 | earned(1, 31) -> 3 | earned(1, 32) -> 7
            """);
        s.test("Term 2", "of others all of it, if it was written ahead of that day (one of KIND 4, too); together", """
            book "price A 100;price B 50;rest B 2;fee 20" -> 4 | begin(0, 0, 1) -> 100 | use(0, 9) -> 9 | days(10) -> 10 | change(0, 1) -> -34 | turn(2) -> 3 | earned(0, 10) -> 32
            earned(0, 11) -> -1 | favour(0, 2) -> 30 | earned(0, 10) -> 32 | earned(0, 11) -> -3 | days(21) -> 21 | entry(5, 7) -> 18 | earned(0, 31) -> 30 | earned(0, 32) -> 49
            pay(0, 1) -> 1 | earned(0, 32) -> 49
            other | book "price A 1000;fee 20" -> 2 | begin(0, 0, 1) -> 1000 | days(15) -> 15 | remind(0) -> 200 | earned(0, 15) -> 483 | earned(0, 16) -> 716
            """);
        s.test("Promise 22", "EARNED of an account by a day (0 to 3653)", """
            book "price A 100" -> 1 | begin(0, 0, 1) -> 100 | begin(1, 1, 1) -> 0 | earned(0, -1) -> -1000000 | earned(0, 0) -> 0 | earned(0, 3653) -> 100 | earned(0, 3654) -> -1000000
            earned(1, 3653) -> 0 | giveUp(0) -> -100 | earned(0, 3653) -> 0
            """);
        s.test("Promise 22", "-1000000: no such ones (not begun)", """
            earned(0, 0) -> -1000000 | begin(0, 0, 1) -> 0 | earned(0, 0) -> 0 | earned(-1, 0) -> -1000000 | earned(6, 0) -> -1000000 | earned(1, 0) -> -1000000
            earned(MIN, 0) -> -1000000 | earned(MAX, 0) -> -1000000 | earned(0, MIN) -> -1000000 | earned(0, MAX) -> -1000000
            """);
    }

    private static void written(Script s) {
        s.test("Promise 23", "Cents of all ENTRIES written from a day to a later one (or the same; that, too), of all accounts", """
            book "price A 3100;price B 31" -> 2 | written(0, 3652) -> 0 | begin(0, 0, 1) -> 3100 | days(1) -> 1 | begin(1, 1, 1) -> 30 | days(2) -> 2 | favour(0, 7) -> 3093
            written(0, 0) -> 3100 | written(0, 1) -> 3130 | written(1, 1) -> 30 | written(1, 2) -> 30 | written(1, 3) -> 23 | written(2, 2) -> 0 | written(2, 3) -> -7 | written(3, 3) -> -7
            written(4, 3652) -> 0 | written(0, 3652) -> 3123 | written(1, 0) -> -1000000 | written(3, 2) -> -1000000
            """);
        s.test("Promise 23", "-1000000: no such ones (0 to 3652)", """
            written(-1, 0) -> -1000000 | written(0, 0) -> 0 | written(3652, 3652) -> 0 | written(0, 3653) -> -1000000 | written(3653, 3653) -> -1000000 | written(MIN, MAX) -> -1000000
            written(0, MAX) -> -1000000 | written(MIN, 0) -> -1000000 | written(MAX, MIN) -> -1000000
            9 * days(400) -> 400 | days(51) -> 51 | book "price A 31" -> 1 | begin(0, 0, 31) -> 1 | written(3651, 3652) -> 1 | written(3651, 3651) -> 1 | written(3652, 3652) -> 0
            """);
    }

    private static void turn(Script s) {
        s.test("Term 2", "TURNED ROUND: of an ENTRY of another KIND than 4 that is not turned round: the same, but with its cents turned round and KIND 4", """
            book "price A 3100;price B 6200" -> 2 | begin(3, 0, 1) -> 3100 | days(10) -> 10 | change(3, 1) -> 2100 | days(25) -> 25 | turn(1) -> 5
            entry(5, 0) -> 4 | entry(5, 1) -> 3 | entry(5, 2) -> 35 | entry(5, 3) -> 0 | entry(5, 4) -> 10 | entry(5, 5) -> 31 | entry(5, 6) -> 0 | entry(5, 7) -> 2100
            entry(5, 8) -> 1 | entry(5, 9) -> -2 | entry(1, 9) -> 5 | entry(1, 8) -> -2 | entry(1, 7) -> -2100 | turn(1) -> -2 | turn(5) -> -2 | turn(3) -> 6 | entry(6, 3) -> 0 | entry(6, 4) -> 0 | entry(6, 5) -> 31 | entry(6, 6) -> 1 | entry(6, 7) -> 0
            turn(2) -> 7 | entry(7, 6) -> 1 | entry(7, 7) -> -4200 | accountIs(3, 8) -> 9300 | turn(6) -> -2 | turn(3) -> -2
            """);
        s.test("Term 2", "not if ALL of the account would be below 0 by it", """
            book "price A 3100" -> 1 | begin(0, 0, 1) -> 3100 | begin(1, 0, 1) -> 3100 | favour(0, 1) -> 3099 | turn(0) -> -4 | turn(2) -> 3 | turn(0) -> 4 | accountIs(0, 8) -> 0
            # Of an ended account, too; a credit turned round brings ALL up to 0, and not with one cent less.
            giveUp(1) -> -3100 | accountIs(1, 8) -> 0 | turn(1) -> -4 | turn(5) -> 7 | accountIs(1, 8) -> 3100 | turn(1) -> 8 | accountIs(1, 8) -> 0
            giveUp(0) -> -3100 | turn(9) -> 11 | accountIs(0, 8) -> 0
            """);
        s.test("Promise 24", "TURNED ROUND: the number of the new ENTRY", "begin(0, 0, 1) -> 0 | turn(0) -> 1 | begin(1, 0, 1) -> 0 | turn(2) -> 3 | entry(3, 8) -> 2");
        s.test("Promise 24", "-2: it is turned round, of KIND 4", "begin(0, 0, 1) -> 0 | turn(0) -> 1 | turn(0) -> -2 | turn(1) -> -2 | turn(2) -> -1");
        s.test("Promise 24", "-3: there are 400 ENTRIES", """
            book "price A 3100" -> 1 | begin(0, 0, 1) -> 3100 | favour(0, 1) -> 3099 | fill 399 | turn(1) -> 399 | count(0) -> 400 | turn(0) -> -3 | turn(398) -> -3
            # -2 ahead of -3, -3 ahead of -4, NONE ahead of all.
            turn(1) -> -2 | turn(399) -> -2 | turn(400) -> -1
            """);
        s.test("Promise 24", "-3: there are 400 ENTRIES; -4", "book \"price A 3100\" -> 1 | begin(0, 0, 1) -> 3100 | favour(0, 1) -> 3099 | fill 400 | turn(0) -> -3 | undo() -> false");
        s.test("Promise 24", "-4: ALL would be below 0", """
            book "price A 3100" -> 1 | begin(0, 0, 1) -> 3100 | days(10) -> 10 | change(0, 1) -> -2100 | turn(0) -> -4 | turn(2) -> 3 | turn(0) -> -4 | turn(1) -> 4 | turn(0) -> 5
            # 0 cents turned round leave 0.
            accountIs(0, 8) -> 0 | begin(1, 1, 1) -> 0 | turn(6) -> 7
            """);
        s.test("Promise 24", "NONE: no such ENTRY", "turn(0) -> -1 | begin(0, 0, 1) -> 0 | turn(-1) -> -1 | turn(1) -> -1 | turn(MIN) -> -1 | turn(MAX) -> -1 | turn(0) -> 1");
    }

    private static void entry(Script s) {
        s.test("Promise 35", "Of an ENTRY, what 0 KIND, 1 account, 2 the day on which it was written, 3 the PERIOD's number, 4 from, 5 to, 6 PLAN, 7 cents, "
            + "8 the ENTRY that it turns round (none: -2), 9 that which turns it round (none: -2)", """
            book "price C 3100" -> 1 | days(3) -> 3 | begin(2, 2, 15) -> 1100 | entry(0, 0) -> 0 | entry(0, 1) -> 2 | entry(0, 2) -> 3 | entry(0, 3) -> 0 | entry(0, 4) -> 3
            entry(0, 5) -> 14 | entry(0, 6) -> 2 | entry(0, 7) -> 1100 | entry(0, 8) -> -2 | entry(0, 9) -> -2 | days(20) -> 20 | turn(0) -> 3 | entry(0, 8) -> -2 | entry(0, 9) -> 3
            entry(3, 0) -> 4 | entry(3, 2) -> 23 | entry(3, 3) -> 0 | entry(3, 8) -> 0 | entry(3, 9) -> -2 | entry(2, 3) -> 1 | entry(1, 0) -> 2 | entry(1, 3) -> 0
            """);
        s.test("Promise 35", "-1000000: no such ones", """
            entry(0, 0) -> -1000000 | begin(0, 0, 1) -> 0 | entry(0, -1) -> -1000000 | entry(0, 9) -> -2 | entry(0, 10) -> -1000000 | entry(-1, 0) -> -1000000 | entry(1, 0) -> -1000000
            entry(MIN, 0) -> -1000000 | entry(MAX, 0) -> -1000000 | entry(0, MIN) -> -1000000 | entry(0, MAX) -> -1000000 | fill 400 | entry(399, 1) -> 5 | entry(400, 1) -> -1000000
            """);
    }

    private static void line(Script s) {
        s.test("Term 2", "LINE of an ENTRY: \"P\", its PERIOD's number, \" \", the day of from as YYYY-MM-DD, \" to \", that of to, \" \", the PLAN's letter, \" \", "
            + "its KIND's word (charge, credit, usage, favour, turned, fee), \" \", cents as euros: a \"-\" if below 0, whole hundreds, \".\", two digits", """
            book "price A 3100;rest A 5;fee 20;price F 99999;price E 1" -> 5 | begin(0, 0, 1) -> 3100 | use(0, 1) -> 1 | days(15) -> 15 | remind(0) -> 620 | favour(0, 5) -> 3715
            turn(1) -> 3 | days(16) -> 16 | seats(0, 2) -> 3100 | begin(5, 5, 1) -> 99999 | seats(5, 9) -> 799992 | begin(4, 4, 1) -> 1 | turn(11) -> 12
            begin(3, 3, 31) -> 0 | pause(0, true) -> -6200
            line 0 "P0 2024-01-01 to 2024-02-01 A charge 31.00" | line 1 "P0 2024-01-16 to 2024-01-16 A fee 6.20" | line 2 "P0 2024-01-16 to 2024-01-16 A favour -0.05"
            line 3 "P0 2024-01-16 to 2024-01-16 A turned -6.20" | line 4 "P0 2024-01-01 to 2024-02-01 A usage 0.05" | line 5 "P1 2024-02-01 to 2024-03-01 A charge 31.00"
            line 6 "P1 2024-02-01 to 2024-03-01 A credit -31.00" | line 7 "P1 2024-02-01 to 2024-03-01 A charge 62.00" | line 8 "P0 2024-02-01 to 2024-03-01 F charge 999.99"
            line 9 "P0 2024-02-01 to 2024-03-01 F credit -999.99" | line 10 "P0 2024-02-01 to 2024-03-01 F charge 8999.91" | line 11 "P0 2024-02-01 to 2024-03-01 E charge 0.01"
            line 12 "P0 2024-02-01 to 2024-03-01 E turned -0.01" | line 13 "P0 2024-02-01 to 2024-02-29 D charge 0.00" | line 15 "P1 2024-02-01 to 2024-03-01 A charge 0.00"
            """);
        s.test("Term 2", "its PERIOD's number", """
            book "price A 99" -> 1 | begin(0, 0, 31) -> 96 | 9 * days(400) -> 400 | days(400) -> 51 | line 18 "P9 2024-09-30 to 2024-10-31 A charge 0.99"
            line 20 "P10 2024-10-31 to 2024-11-30 A charge 0.99" | line 198 "P99 2032-03-31 to 2032-04-30 A charge 0.99" | line 200 "P100 2032-04-30 to 2032-05-31 A charge 0.99"
            line 22 "P11 2024-11-30 to 2024-12-31 A charge 0.99" | line 24 "P12 2024-12-31 to 2025-01-31 A charge 0.99" | line 238 "P119 2033-11-30 to 2033-12-31 A charge 0.99" | line 237 "P118 2033-10-31 to 2033-11-30 A usage 0.00"
            """);
        s.test("Term 2", "cents as euros: a \"-\" if below 0, whole hundreds, \".\", two digits", """
            book "price A 9;price B 10;price C 100;price D 101;price E 1000;price F 10000" -> 6 | begin(0, 0, 1) -> 9 | begin(1, 1, 1) -> 10 | begin(2, 2, 1) -> 100 | begin(3, 3, 1) -> 101
            begin(4, 4, 1) -> 1000 | begin(5, 5, 1) -> 10000 | favour(5, 99) -> 9901 | favour(5, 100) -> 9801 | favour(5, 9) -> 9792 | line 0 "P0 2024-01-01 to 2024-02-01 A charge 0.09"
            line 1 "P0 2024-01-01 to 2024-02-01 B charge 0.10" | line 2 "P0 2024-01-01 to 2024-02-01 C charge 1.00" | line 3 "P0 2024-01-01 to 2024-02-01 D charge 1.01"
            line 4 "P0 2024-01-01 to 2024-02-01 E charge 10.00" | line 5 "P0 2024-01-01 to 2024-02-01 F charge 100.00" | line 6 "P0 2024-01-01 to 2024-01-01 F favour -0.99"
            line 7 "P0 2024-01-01 to 2024-01-01 F favour -1.00" | line 8 "P0 2024-01-01 to 2024-01-01 F favour -0.09"
            days(366) -> 366 | favour(5, 1) -> 129791 | count(0) -> 154 | line 153 "P12 2025-01-01 to 2025-01-01 F favour -0.01"
            """);
        s.test("Promise 36", "LINE of an ENTRY, i NONE how many bytes, else byte i", """
            begin(0, 0, 1) -> 0 | line(0, -1) -> 41 | line(0, 0) -> 80 | line(0, 1) -> 48 | line(0, 2) -> 32 | line(0, 36) -> 32 | line(0, 37) -> 48 | line(0, 38) -> 46
            line(0, 39) -> 48 | line(0, 40) -> 48
            """);
        s.test("Promise 36", "-4: it has not so many", "begin(0, 0, 1) -> 0 | line(0, 40) -> 48 | line(0, 41) -> -4 | line(0, 80) -> -4 | line(0, MAX) -> -4");
        s.test("Promise 36", "NONE: no such ENTRY", """
            line(0, -1) -> -1 | line(0, 0) -> -1 | begin(0, 0, 1) -> 0 | line(0, 0) -> 80 | line(1, 0) -> -1 | line(-1, 0) -> -1 | line(MIN, 0) -> -1 | line(MAX, 0) -> -1
            line(1, 99) -> -1 | line(1, -2) -> -1 | fill 400 | line(399, 0) -> 80 | line(400, 0) -> -1
            """);
        s.test("Promise 36", "-9: i below NONE", "begin(0, 0, 1) -> 0 | line(0, -2) -> -9 | line(0, MIN) -> -9 | line(0, -1) -> 41");
    }

    private static void period(Script s) {
        s.test("Promise 37", "Of an account, cents of all ENTRIES of a PERIOD (0 to 199) together", """
            book "price A 3100;rest A 2;price B 6200" -> 3 | begin(0, 0, 1) -> 3100 | begin(1, 1, 1) -> 6200 | use(0, 5) -> 5 | period(0, 0) -> 3100 | period(0, 1) -> 0 | days(31) -> 31
            favour(0, 3) -> 6207 | period(0, 0) -> 3110 | period(0, 1) -> 3097 | period(0, 2) -> 0 | period(0, 199) -> 0 | period(1, 0) -> 6200 | period(1, 1) -> 6200
            turn(0) -> 7 | period(0, 0) -> 10 | period(0, 1) -> 3097 | period(0, -1) -> -1000000 | period(0, 200) -> -1000000
            """);
        s.test("Promise 37", "-1000000: no such ones", """
            period(0, 0) -> -1000000 | begin(0, 0, 1) -> 0 | period(0, 0) -> 0 | period(0, 199) -> 0 | period(0, -1) -> -1000000 | period(0, 200) -> -1000000 | period(-1, 0) -> -1000000
            period(6, 0) -> -1000000 | period(1, 0) -> -1000000 | period(MIN, 0) -> -1000000 | period(MAX, 0) -> -1000000 | period(0, MIN) -> -1000000 | period(0, MAX) -> -1000000
            giveUp(0) -> 0 | period(0, 0) -> 0
            """);
    }
}
