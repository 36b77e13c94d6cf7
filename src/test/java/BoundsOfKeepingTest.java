/** Boundary sentences on what is KEPT, on CHECK, on refused calls and the order of reasons: Term 2, Rules, Promises 42 to 45. */
public final class BoundsOfKeepingTest {
    public static void main(String[] args) {
        Script s = Script.running();
        all(s);
        s.end();
    }

    static void all(Script s) {
        keep(s);
        undo(s);
        check(s);
        count(s);
        refusals(s);
        reasons(s);
    }

    private static void keep(Script s) {
        s.test("Term 2", "KEPT is all but the tape; UNDONE: as it was KEPT last", """
            book "price A 3100;price B 6200;rest A 2;tax 0 10;fee 5;less 10 1;tier C 1 2;bulk D 2 3;mode E whole;pause F 4;free F 5" -> 11 | begin(0, 0, 1) -> 2790 | use(0, 5) -> 5
            pay(0, 7) -> 7 | days(3) -> 3 | seats(0, 2) -> 2520 | pause(0, true) -> -5040 | turn(4) -> 5 | feed(1, 2, 3, 4, 5) -> 20 | keep() -> 6
            pause(0, false) -> 5040 | use(0, 1) -> 6 | pay(0, 1) -> 8 | change(0, 1) -> 5040 | seats(0, 4) -> 10080 | turn(0) -> 12 | move(0, 9) -> -16160 | giveUp(0) -> -4000
            begin(3, 1, 31) -> 4860 | days(100) -> 100 | feed(1, 2, 3, 4, 5) -> 40 | undo() -> true | count(0) -> 6 | count(1) -> 3 | count(2) -> 40 | count(3) -> 11
            accountIs(0, 0) -> 0 | accountIs(0, 1) -> 1 | accountIs(0, 2) -> 0 | accountIs(0, 3) -> 0 | accountIs(0, 4) -> 31 | accountIs(0, 5) -> 31 | accountIs(0, 7) -> 5
            accountIs(0, 9) -> 1 | accountIs(0, 10) -> 0 | accountIs(0, 18) -> 7 | accountIs(0, 19) -> 2 | accountIs(3, 0) -> -1000000 | billIs(4) -> 1 | billIs(5) -> 0
            entry(0, 9) -> -2 | entry(4, 9) -> 5 | entry(5, 8) -> 4 | entry(5, 7) -> 0 | plan(2, 10) -> 1 | plan(2, 20) -> 2 | plan(3, 30) -> 2 | plan(3, 40) -> 3
            plan(4, 4) -> 1 | plan(5, 5) -> 4 | plan(5, 1) -> 5 | billIs(0) -> 10 | billIs(1) -> 1 | billIs(7) -> 5 | billIs(20) -> 10 | tax(0) -> 279
            """);
        s.test("Promise 42", "KEPT: how many ENTRIES", """
            keep() -> 0 | begin(0, 0, 1) -> 0 | keep() -> 1 | days(31) -> 31 | keep() -> 3 | keep() -> 3 | fill 400 | keep() -> 400 | undo() -> true | count(0) -> 400 | entry(399, 1) -> 5
            """);
    }

    private static void undo(Script s) {
        s.test("Promise 43", "UNDONE: true", """
            # What was KEPT last, as often as it is asked for; UNDONE ahead of the first ENTRY a BOOK can be told again.
            book "price A 1" -> 1 | keep() -> 0 | book "price A 2" -> 1 | plan(0, 0) -> 2 | begin(0, 0, 1) -> 2 | book "fee 1" -> -3 | undo() -> true | plan(0, 0) -> 1 | count(3) -> 1
            book "price A 3;fee 1" -> 2 | undo() -> true | plan(0, 0) -> 1 | billIs(7) -> 0 | count(3) -> 1 | begin(0, 0, 1) -> 1 | keep() -> 1 | days(31) -> 31 | undo() -> true
            count(0) -> 1 | count(1) -> 0 | undo() -> true | count(0) -> 1 | days(31) -> 31 | keep() -> 3 | giveUp(0) -> -1 | undo() -> true | count(0) -> 3 | accountIs(0, 10) -> 0
            """);
        s.test("Promise 43", "false: nothing was KEPT", """
            undo() -> false | begin(0, 0, 1) -> 0 | undo() -> false | count(0) -> 1 | days(5) -> 5 | undo() -> false | count(1) -> 5 | keep() -> 1 | undo() -> true
            """);
    }

    private static void check(Script s) {
        s.test("Term 2", "CHECK: cents of ENTRIES 0, 1, ..: right, each as one byte (cents modulo 256, 0 to 255), or the first that is not so", """
            # 3100, -2100, 4200, 0 are 28, 204, 104, 0; 255, 256, -1, -255, -256 are 255, 0, 255, 1, 0.
            book "price A 3100;price B 6200" -> 2 | begin(0, 0, 1) -> 3100 | days(10) -> 10 | change(0, 1) -> 2100 | begin(1, 2, 1) -> 0 | check [28 204 104 0] -> -1
            check [29 204 104 0] -> 0 | check [28 205 104 0] -> 1 | check [28 204 105 0] -> 2 | check [28 204 104 1] -> 3 | check [27 203 104 0] -> 0 | check [156 204 104 0] -> 0
            other | book "price A 255;price B 256;price C 1" -> 3 | begin(0, 0, 1) -> 255 | begin(1, 1, 1) -> 256 | begin(2, 2, 1) -> 1 | favour(0, 255) -> 0 | favour(1, 255) -> 1
            favour(2, 1) -> 0 | check [255 0 1 1 1 255] -> -1 | turn(1) -> -4 | turn(0) -> -4 | seats(1, 2) -> 256 | check [255 0 1 1 1 255 0 0] -> -1
            """);
        s.test("Promise 44", "CHECK by the first n bytes of the tape (0 to 400; empty then): NONE: right (behind all ENTRIES nothing is)", """
            check(0) -> -1 | check [0] -> 0 | book "price A 3" -> 1 | begin(0, 0, 1) -> 3 | begin(1, 1, 1) -> 0 | check [3 0] -> -1 | check [3 0 0] -> 2 | check [3] -> -1 | check(0) -> -1
            feed(50331648, 0, 0, 0, 0) -> 20 | check(0) -> -1 | count(2) -> 0 | feed(50331648, 0, 0, 0, 0) -> 20 | check(2) -> -1 | count(2) -> 0
            fill 400 | feed "\3%1$s" -> 400 | check(400) -> -1 | count(2) -> 0 | feed "\3%2$s\1" -> 400 | check(400) -> 399 | count(2) -> 0
            """.formatted("\0".repeat(399), "\0".repeat(398)));
        s.test("Promise 44", "else the first that is not so", """
            book "price A 3" -> 1 | begin(0, 0, 1) -> 3 | begin(1, 1, 1) -> 0 | check [4 1] -> 0 | check [3 1] -> 1 | check [3 0 7] -> 2 | check [3 0 0 0] -> 2 | check [4] -> 0 | count(2) -> 0
            """);
        s.test("Promise 44", "-2: no such n, it has not so many (the tape stays)", """
            check(-1) -> -2 | check(1) -> -2 | feed(0, 0, 0, 0, 0) -> 20 | check(21) -> -2 | check(-1) -> -2 | check(401) -> -2 | check(MIN) -> -2 | check(MAX) -> -2 | count(2) -> 20
            feed "%s" -> 400 | check(401) -> -2 | count(2) -> 400 | check(400) -> 0 | count(2) -> 0 | check(1) -> -2
            """.formatted("\0".repeat(380)));
    }

    private static void count(Script s) {
        s.test("Promise 45", "0 ENTRIES, 1 TODAY, 2 bytes of the tape, 3 CLAUSES of THE BOOK", """
            count(0) -> 0 | count(1) -> 0 | count(2) -> 0 | count(3) -> 0 | book "fee 1;fee 2" -> 2 | begin(0, 0, 1) -> 0 | days(35) -> 35 | feed(0, 0, 0, 0, 0) -> 20
            feed(0, 0, 0, 0, 0) -> 40 | count(0) -> 3 | count(1) -> 35 | count(2) -> 40 | count(3) -> 2
            """);
        s.test("Promise 45", "NONE for others", "count(-1) -> -1 | count(4) -> -1 | count(MIN) -> -1 | count(MAX) -> -1 | count(3) -> 0");
        s.test("Constants", "NONE = -1", "plan(" + SlicedBills.NONE + ", 0) -> " + SlicedBills.NONE + " | begin(0, 0, 1) -> 0 | line(0, " + SlicedBills.NONE + ") -> 41 | undo() -> false");
        s.test("Constants", ": There is none.", "count(4) -> " + SlicedBills.NONE + " | cheapest(-1) -> " + SlicedBills.NONE);
    }

    private static void refusals(Script s) {
        s.test("Rules", "All memory is the biller's own", """
            book "price A 3100;tier B 1 2;tax 0 5" -> 3 | begin(0, 0, 1) -> 3100 | use(0, 3) -> 3 | keep() -> 1 | feed(1, 2, 3, 4, 5) -> 20 | other | count(0) -> 0 | count(2) -> 0
            plan(0, 0) -> 0 | plan(1, 10) -> -2 | billIs(10) -> -2 | undo() -> false | accountIs(0, 0) -> -1000000 | begin(0, 1, 5) -> 0 | days(50) -> 50 | keep() -> 5
            book "fee 1" -> -3 | other | count(0) -> 1 | count(1) -> 0 | count(2) -> 20 | accountIs(0, 0) -> 0 | accountIs(0, 7) -> 3 | plan(0, 0) -> 3100 | days(1) -> 1 | undo() -> true
            count(1) -> 0 | ahead(0, 31) -> 6200 | other | count(1) -> 50 | count(0) -> 5 | accountIs(0, 1) -> 5
            """);
        s.test("Rules", "A call that is refused (NONE, -2 to -9, false) changes nothing but the tape, where it is told", """
            # Script looks at all that can be asked ahead of and behind each of these; here all refusals come once more, and KEPT stays, too.
            book "price A 3100;price B 6200;rest A 2;fee 5" -> 4 | begin(0, 0, 1) -> 3100 | begin(1, 1, 31) -> 6000 | use(0, 9) -> 9 | pay(0, 100) -> 100 | days(16) -> 16 | favour(0, 10) -> 3090
            remind(0) -> 149 | turn(3) -> 4 | begin(2, 0, 1) -> 1500 | giveUp(2) -> -1500 | pause(1, true) -> -2800 | keep() -> 10 | undo() -> true
            book "x" -> -3 | book(1) -> -1 | begin(0, 0, 1) -> -4 | begin(2, 0, 1) -> -4 | begin(6, 0, 1) -> -1 | change(0, 0) -> -1000000 | change(2, 1) -> -1000000
            seats(0, 1) -> -1000000 | seats(2, 2) -> -1000000 | pause(0, false) -> -1000000 | pause(1, true) -> -1000000 | giveUp(2) -> -1000000 | giveUp(3) -> -1000000
            move(0, 1) -> -1000000 | move(2, 9) -> -1000000 | move(0, 32) -> -1000000 | deeds "on 6" -> -3003 | deeds(1) -> -1 | tried "x" 0 -> -1000 | tried(1, 0) -> -1
            tried "days 1" 3 -> -1000000 | use(1, 1) -> -2 | use(0, 9991) -> -3 | use(2, 1) -> -1 | use(0, -1) -> -1 | days(0) -> -1 | days(401) -> -1 | favour(0, 3091) -> -1000000
            favour(0, 0) -> -1000000 | pay(0, 0) -> -1 | pay(0, 1000000) -> -1 | remind(0) -> -4 | remind(2) -> -2 | remind(3) -> -1 | turn(3) -> -2 | turn(4) -> -2 | turn(0) -> -4
            turn(10) -> -1 | check(1) -> -2 | line(0, -2) -> -9 | line(0, 99) -> -4 | when(0, MAX) -> -2 | undo() -> true | count(0) -> 10 | count(1) -> 16 | accountIs(0, 7) -> 9
            accountIs(0, 18) -> 100 | deeds "use 0 1;use 0 9999" -> 1 | accountIs(0, 7) -> 10
            """);
        s.test("Rules", "(NONE, -2 to -9, false)", "undo() -> false | feed \"" + " ".repeat(400) + "\" -> 400 | feed(0, 0, 0, 0, 0) -> -1 | undo() -> false | deeds(200) -> -1000 | count(2) -> 0");
    }

    private static void reasons(Script s) {
        s.test("Rules", "Of several reasons NONE comes first", """
            # Where there are ENTRIES; where an account has begun, is PAUSED, ended; where ALL would be below 0.
            begin(0, 0, 1) -> 0 | book(1) -> -1 | feed "x" -> 20 | book(21) -> -1 | book(0) -> -1 | count(2) -> 20 | book(20) -> -3 | begin(0, 6, 1) -> -1 | begin(0, 0, 0) -> -1
            begin(0, 0, 1) -> -4 | pause(0, true) -> 0 | use(0, -1) -> -1 | use(0, 10000) -> -2 | giveUp(0) -> 0 | use(0, 1) -> -1 | line(9, -2) -> -1 | line(9, 99) -> -1 | line(0, -2) -> -9
            plan(6, 10) -> -1 | plan(0, 10) -> -2 | span(32, 0, 0) -> -1 | span(31, 0, 3) -> -1 | span(31, 0, 0) -> -2 | owes(6, 1) -> -1 | owes(0, 1) -> -2 | when(6, 9) -> -1 | when(0, 9) -> -2
            feed "x" -> 20 | tried(1, 6) -> -1 | tried(0, 6) -> -1 | tried(21, 0) -> -1 | count(2) -> 20 | tried(1, 0) -> -1000
            """);
        s.test("Rules", "NONE comes first", """
            # Where there are 400 ENTRIES, behind which the last DAY is near.
            9 * days(400) -> 400 | days(22) -> 22 | begin(0, 0, 31) -> 0 | begin(1, 1, 31) -> 0 | 99 * deeds "change 0 B;change 0 A" -> 2 | giveUp(0) -> 0 | count(0) -> 400
            begin(6, 0, 1) -> -1 | begin(2, 0, 32) -> -1 | begin(0, 0, 1) -> -3 | begin(2, 0, 1) -> -3 | begin(2, 0, 31) -> -3 | turn(400) -> -1 | turn(0) -> -3 | remind(2) -> -1 | remind(0) -> -2
            favour(0, 1) -> -1000000 | move(1, 31) -> -1000000 | move(1, 1) -> -1000001 | change(1, 1) -> -1000000 | change(1, 0) -> -1000001
            """);
    }
}
