/** Boundary sentences on the tape, THE BOOK and DEEDS: Terms 1 and 2, Promises 2, 3, 12 and 13. */
public final class BoundsOfTextsTest {
    private static final String TWENTY = Checks.times(20, "fee 1");
    private static final String FOUR_TIERS = "tier A 1 1;tier A 2 1;tier A 3 1;tier A 4 1";
    private static final String THREE_BULKS = "bulk A 2 1;bulk A 3 1;bulk A 4 1";
    private static final String FOUR_TAXES = "tax 0 1;tax 1 1;tax 2 1;tax 3 1";
    private static final String STEPS_24 = Checks.times(24, "on 0");
    /** 20 CLAUSES in 200 bytes, and 24 STEPS in 200 bytes that are all done. */
    private static final String BOOK_200 = Checks.times(19, "price A 1") + ";price A 12";
    private static final String DEEDS_200 = "begin 0 A 1;use 0 00001;use 0 01;" + Checks.times(21, "use 0 1");

    public static void main(String[] args) {
        if (BOOK_200.length() != 200 || DEEDS_200.length() != 200) throw new IllegalStateException();
        Script s = Script.running();
        all(s);
        s.end();
    }

    static void all(Script s) {
        tape(s);
        book(s);
        clauses(s);
        clausesWithRows(s);
        faults(s);
        laterFaults(s);
        deeds(s);
        steps(s);
        stepFaults(s);
        tried(s);
    }

    private static void tape(Script s) {
        s.test("Promise 2", "Twenty bytes come behind the tape, the highest of each int first", """
            # fee 12;fee 3
            feed(1717921056, 825375590, 1701126195, 0, 0) -> 20 | book(12) -> 2 | billIs(7) -> 3
            # Forty bytes: the second twenty come behind the first.
            book "price A 11;price B 2;price C 3;price D 4" -> 4 | plan(0, 0) -> 11 | plan(1, 0) -> 2 | plan(2, 0) -> 3 | plan(3, 0) -> 4
            # All bits of an int: -1, MIN and MAX are 255 255 255 255, 128 0 0 0 and 127 255 255 255.
            feed(-1, MIN, MAX, 16909060, 0) -> 20 | book(1) -> -1000 | count(2) -> 0
            """);
        s.test("Promise 2", ": how many it has", """
            count(2) -> 0 | feed(0, 0, 0, 0, 0) -> 20 | count(2) -> 20 | feed(-1, -1, -1, -1, -1) -> 40 | feed(1, 2, 3, 4, 5) -> 60 | count(2) -> 60
            book(1) -> -1000 | feed(0, 0, 0, 0, 0) -> 20
            """);
        s.test("Promise 2", "NONE if that would be more than 400", """
            feed "%s" -> 380 | feed(1, 1, 1, 1, 1) -> 400 | 3 * feed(1, 1, 1, 1, 1) -> -1 | count(2) -> 400 | book(5) -> 1
            feed(0, 0, 0, 0, 0) -> 20
            """.formatted("fee 1" + " ".repeat(375)));
    }

    private static void book(Script s) {
        s.test("Promise 3", "THE BOOK by the first n bytes of the tape (1 to 200; empty then): how many CLAUSES", """
            feed "fee 12345678" -> 20 | book(5) -> 1 | count(2) -> 0 | billIs(7) -> 1
            feed "fee 12345678" -> 20 | book(6) -> 1 | billIs(7) -> 12
            feed "fee 3" -> 20 | book(0) -> -1 | book(-1) -> -1 | count(2) -> 20 | book(1) -> -1000 | count(2) -> 0
            book "%s" -> 20 | count(2) -> 0 | plan(0, 0) -> 12 | count(3) -> 20 | feed "fee 7" -> 20 | book(5) -> 1 | count(3) -> 1
            """.formatted(BOOK_200));
        s.test("Promise 3", "a FAULT: -1000 times its number, less its place (the one before stays)", """
            book "price A 7;less 3 4;tier B 5 6;bulk B 2 3;tax 1 2;fee 9" -> 6
            book "price A 8;less 1 1;tier B 7 1;bulk B 3 1;tax 0 1;tax 1 x" -> -1055
            book "price A 8;tier A 5 5;tax 9 1;bulk A 3 3;fee 21" -> -3044 | book "x" -> -1000 | book "fee 123456" -> -2009
            plan(0, 0) -> 7 | billIs(0) -> 3 | billIs(1) -> 4 | plan(1, 10) -> 5 | plan(1, 20) -> 6 | plan(1, 11) -> -2 | plan(1, 30) -> 2
            billIs(10) -> 1 | billIs(20) -> 2 | billIs(11) -> -2 | billIs(7) -> 9 | count(3) -> 6 | plan(0, 2) -> 0
            """);
        s.test("Promise 3", "-3: there are ENTRIES (asked ahead of FAULTS; the tape is empty then)", """
            book "price A 100" -> 1 | book "price A 200" -> 1 | begin(0, 0, 1) -> 200 | book "x" -> -3 | count(2) -> 0
            book "price A 300" -> -3 | count(2) -> 0 | plan(0, 0) -> 200 | book "fee 123456" -> -3 | giveUp(0) -> -200 | book "fee 1" -> -3
            """);
        s.test("Promise 3", "NONE: no such n, it has not so many (the tape stays)", """
            book(1) -> -1 | feed "fee 1" -> 20 | book(21) -> -1 | count(2) -> 20 | book(20) -> -1005 | count(2) -> 0
            feed "%s" -> 220 | book(201) -> -1 | book(0) -> -1 | book(MIN) -> -1 | book(MAX) -> -1 | count(2) -> 220 | book(200) -> 20
            # NONE comes ahead of -3, and leaves the tape.
            begin(0, 0, 1) -> 12 | feed "fee 1" -> 20 | book(21) -> -1 | book(0) -> -1 | count(2) -> 20 | book(5) -> -3 | count(2) -> 0
            """.formatted(BOOK_200 + "0"));
        s.test("Term 1", "THE BOOK: a TEXT of at most 200 bytes", "book \"" + BOOK_200 + "\" -> 20 | book \"" + BOOK_200 + "3\" -> -1 | count(2) -> 220");
        s.test("Term 1", "CLAUSES with a ; (59) between two, 20 at most", """
            book "fee 1" -> 1 | book "fee 1;fee 2" -> 2 | book "fee 1:fee 2" -> -1005 | book "fee 1<fee 2" -> -1005 | book "fee 1 fee 2" -> -1005
            book "fee 1fee 2" -> -1005 | book "fee 1;;fee 2" -> -1006 | book ";fee 1" -> -1000 | book "fee 1;" -> -1006 | book "fee 1; fee 2" -> -1006
            book "%s" -> 20 | count(3) -> 20 | book "%s;fee 1" -> -4120
            """.formatted(TWENTY, TWENTY));
        s.test("Term 1", "each of words and NUMBERS (one to five digits) with one blank (32) between", """
            book "fee 7" -> 1 | book "fee 00007" -> 1 | billIs(7) -> 7 | book "fee 000007" -> -2009 | book "fee " -> -1004 | book "price A " -> -1008
            book "fee  7" -> -1004 | book "fee!7" -> -1003 | book "fee\0377" -> -1003 | book "fee\t7" -> -1003 | book "fee7" -> -1003
            book "fee 7 " -> -1005 | book " fee 7" -> -1000 | book "less 1  2" -> -1007 | book "less 1;2" -> -1006 | book "price  A 1" -> -1006
            book "fee -7" -> -1004 | book "fee +7" -> -1004 | book "fee /" -> -1004 | book "fee :" -> -1004 | book "fee 0x7" -> -1005
            """);
        s.test("Term 1", "P is a letter A to F", """
            book "price A 1;price F 2" -> 2 | plan(0, 0) -> 1 | plan(5, 0) -> 2 | book "price @ 1" -> -1006 | book "price G 1" -> -1006
            book "price a 1" -> -1006 | book "price f 1" -> -1006 | book "price 0 1" -> -1006 | book "price AA 1" -> -1007 | book "priceA 1" -> -1005
            book "tier G 1 1" -> -1005 | book "bulk @ 2 1" -> -1005 | book "mode G whole" -> -1005 | book "rest G 1" -> -1005 | book "free G 1" -> -1005
            book "pause G 1" -> -1006
            """);
        s.test("Term 1", "Words are as far as small letters go on", """
            book "tee 1" -> -1000 | book "fef 1" -> -1000 | book "grice A 1" -> -1000 | book "mode A bdding" -> -1007 | book "mode A xhole" -> -1007 | book "fe 1" -> -1000 | book "feex 1" -> -1000 | book "feeX 1" -> -1003 | book "fEE 1" -> -1000 | book "Fee 1" -> -1000
            book "fee` 1" -> -1003 | book "fee{ 1" -> -1003 | book "feea 1" -> -1000 | book "feez 1" -> -1000 | book "fee@ 1" -> -1003
            book "mode A wholex" -> -1007 | book "mode A whole9" -> -1012 | book "mode A wholeX" -> -1012 | book "mode A whol" -> -1007
            """);
        s.test("Term 1", "What is told twice counts as told last (of tier, bulk, tax each comes to those there are)", """
            book "price A 1;price A 2;free A 3;free A 4;rest A 5;rest A 6;mode A whole;mode A adding;pause A 7;pause A 8" -> 10
            plan(0, 0) -> 2 | plan(0, 1) -> 4 | plan(0, 3) -> 6 | plan(0, 4) -> 0 | plan(0, 5) -> 8
            book "less 1 2;less 3 4;fee 5;fee 6;tier A 1 2;tier A 3 4;bulk A 2 3;bulk A 4 5;tax 1 2;tax 3 4;price A 9;price A 0" -> 12
            billIs(0) -> 3 | billIs(1) -> 4 | billIs(7) -> 6 | plan(0, 0) -> 0 | plan(0, 2) -> 2 | plan(0, 10) -> 1 | plan(0, 20) -> 2
            plan(0, 11) -> 3 | plan(0, 21) -> 4 | plan(0, 30) -> 2 | plan(0, 40) -> 3 | plan(0, 31) -> 4 | plan(0, 41) -> 5
            billIs(10) -> 1 | billIs(20) -> 2 | billIs(11) -> 3 | billIs(21) -> 4
            """);
        s.test("Term 1", "A new BOOK begins with nothing of the one before", """
            book "price A 1;free A 2;tier A 3 4;rest A 5;mode A whole;pause A 6;less 7 8;fee 9;bulk A 2 3;tax 4 5" -> 10
            book "price B 1" -> 1 | plan(0, 0) -> 0 | plan(0, 1) -> 0 | plan(0, 2) -> 0 | plan(0, 3) -> 0 | plan(0, 4) -> 0 | plan(0, 5) -> 0
            plan(0, 10) -> -2 | plan(0, 20) -> -2 | plan(0, 30) -> -2 | plan(0, 40) -> -2 | billIs(0) -> 0 | billIs(1) -> 0 | billIs(7) -> 0
            billIs(10) -> -2 | billIs(20) -> -2 | plan(1, 0) -> 1 | count(3) -> 1
            # A TIER, a BULK, a TAX of the one before stand in no one's way.
            book "tier A 9 1;bulk A 9 1;tax 9 1" -> 3 | book "tier A 1 1;bulk A 2 1;tax 0 1" -> 3 | plan(0, 10) -> 1 | plan(0, 30) -> 2 | billIs(10) -> 0
            """);
    }

    private static void clauses(Script s) {
        s.test("Term 1", "price P N (0 to 99999)", """
            book "price A 0" -> 1 | plan(0, 0) -> 0 | book "price F 99999" -> 1 | plan(5, 0) -> 99999 | book "price A 100000" -> -2013 | plan(5, 0) -> 99999
            book "price A -1" -> -1008
            """);
        s.test("Term 1", "free P N (0 to 9999)", """
            book "free A 0" -> 1 | plan(0, 1) -> 0 | book "free F 9999" -> 1 | plan(5, 1) -> 9999 | book "free A 10000" -> -3007 | book "free A 99999" -> -3007
            """);
        s.test("Term 1", "rest P N (0 to 99)", """
            book "rest A 0" -> 1 | plan(0, 3) -> 0 | book "rest F 99" -> 1 | plan(5, 3) -> 99 | book "rest A 100" -> -3007
            """);
        s.test("Term 1", "mode P adding, mode P whole", """
            book "mode A whole" -> 1 | plan(0, 4) -> 1 | book "mode A adding" -> 1 | plan(0, 4) -> 0 | book "mode A 1" -> -1007 | book "mode A" -> -1006
            book "mode A " -> -1007 | book "mode A add" -> -1007 | book "mode A Whole" -> -1007 | book "mode A fee" -> -1007 | book "mode whole" -> -1005
            book "mode A adding 1" -> -1013 | book "mode A;fee 1" -> -1006
            """);
        s.test("Term 1", "pause P N (0 to 100)", """
            book "pause A 0" -> 1 | plan(0, 5) -> 0 | book "pause F 100" -> 1 | plan(5, 5) -> 100 | book "pause A 101" -> -3008
            """);
        s.test("Term 1", "less N M (0 to 100, 0 to 99)", """
            book "less 0 0" -> 1 | billIs(0) -> 0 | billIs(1) -> 0 | book "less 100 99" -> 1 | billIs(0) -> 100 | billIs(1) -> 99
            book "less 101 0" -> -3005 | book "less 0 100" -> -3007 | book "less 101 100" -> -3005 | book "less 100 100" -> -3009 | book "less A 1" -> -1005
            """);
        s.test("Term 1", "fee N (0 to 20)", """
            book "fee 0" -> 1 | billIs(7) -> 0 | book "fee 20" -> 1 | billIs(7) -> 20 | book "fee 21" -> -3004 | book "fee A 1" -> -1004
            """);
    }

    private static void clausesWithRows(Script s) {
        s.test("Term 1", "tier P B N (B 1 to 9999, above all BOUNDS of P; N 0 to 99)", """
            book "tier A 0 0" -> -3007 | book "tier A 1 0" -> 1 | plan(0, 10) -> 1 | plan(0, 20) -> 0 | book "tier A 9999 99" -> 1 | plan(0, 10) -> 9999
            plan(0, 20) -> 99 | book "tier A 10000 0" -> -3007 | book "tier A 1 100" -> -3009
            book "tier A 5 1;tier A 6 1" -> 2 | book "tier A 5 1;tier A 5 1" -> -6018 | book "tier A 5 1;tier A 4 1" -> -6018
            book "tier A 5 1;tier B 5 1" -> 2 | book "tier A 5 1;tier A 9 1;tier A 8 1" -> -6029 | book "tier A 9999 1;tier A 9999 1" -> -6021
            """);
        s.test("Term 1", "bulk P S N (S 2 to 9, above all of P's BULKS; N 0 to 100)", """
            book "bulk A 1 0" -> -3007 | book "bulk A 2 0" -> 1 | plan(0, 30) -> 2 | plan(0, 40) -> 0 | book "bulk A 9 100" -> 1 | plan(0, 30) -> 9
            plan(0, 40) -> 100 | book "bulk A 10 0" -> -3007 | book "bulk A 2 101" -> -3009 | book "bulk A 0 0" -> -3007
            book "bulk A 5 1;bulk A 6 1" -> 2 | book "bulk A 5 1;bulk A 5 1" -> -6018 | book "bulk A 5 1;bulk A 4 1" -> -6018
            book "bulk A 5 1;bulk B 5 1" -> 2 | book "bulk A 5 1;bulk A 9 1;bulk A 8 1" -> -6029
            """);
        s.test("Term 1", "tax D N (D 0 to 3652, above all of TAXES; N 0 to 100)", """
            book "tax 0 0" -> 1 | billIs(10) -> 0 | billIs(20) -> 0 | book "tax 3652 100" -> 1 | billIs(10) -> 3652 | billIs(20) -> 100
            book "tax 3653 0" -> -3004 | book "tax 0 101" -> -3006 | book "tax 5 1;tax 6 1" -> 2 | book "tax 5 1;tax 5 1" -> -6012
            book "tax 5 1;tax 4 1" -> -6012 | book "tax 5 1;tax 9 1;tax 8 1" -> -6020 | book "tax 0 1;tax 0 1" -> -6012
            """);
    }

    private static void faults(Script s) {
        s.test("Term 1", "FAULTS, the first from the left (of one place that of the least number)", """
            book "fee 21;x" -> -3004 | book "fee 1;x;fee 21" -> -1006 | book "fee 99x" -> -3004 | book "fee 123456;x" -> -2009
            book "less 101 100" -> -3005 | book "fee 1 ;fee 21" -> -1005 | book "tier A 0 100" -> -3007
            # 1 and 6 at a P, 3 and 6 at a B, an S.
            book "%s;tier G 5 1" -> -1049 | book "tier A 5 1;tier A 0 1" -> -3018 | book "bulk A 5 1;bulk A 1 1" -> -3018
            # 6 at a P ahead of all behind it; 6 at a B ahead of 3 at its N.
            book "%s;tier A 0 100" -> -6049 | book "tier A 5 1;tier A 5 100" -> -6018
            """.formatted(FOUR_TIERS, FOUR_TIERS));
        s.test("Term 1", "1 what can't stand there (the end, too; of a word at its first letter)", """
            book "x" -> -1000 | book "pricf A 1" -> -1000 | book "pric" -> -1000 | book "price" -> -1005 | book "price " -> -1006 | book "price A" -> -1007
            book "price A " -> -1008 | book "price A 1" -> 1 | book "price A 1;" -> -1010 | book "price A 1;pric" -> -1010 | book "price A 1;price" -> -1015
            book "mode A" -> -1006 | book "mode A " -> -1007 | book "mode A addong" -> -1007 | book "mode A adding;x" -> -1014
            book "less" -> -1004 | book "less " -> -1005 | book "less 1" -> -1006 | book "less 1 " -> -1007 | book "less 1 1" -> 1
            book "tier A 5" -> -1008 | book "tier A 5 " -> -1009 | book "bulk A 5" -> -1008 | book "bulk A 5 " -> -1009 | book "tax 5" -> -1005 | book "tax 5 " -> -1006
            book "begin 0 A 1" -> -1000 | book "fee fee" -> -1004 | book "price A price" -> -1008 | book "\0" -> -1000 | book "\377" -> -1000
            book "fee 1\0" -> -1005 | book "fee 1\377" -> -1005 | book "fee\2401" -> -1003
            """);
        s.test("Term 1", "2 a sixth digit, at it", """
            book "price A 12345" -> 1 | book "price A 123456" -> -2013 | book "price A 1234567" -> -2013 | book "price A 000000" -> -2013
            book "price A 12345x" -> -1013 | book "fee 00001/" -> -1009 | book "fee 00001:" -> -1009 | book "fee 00001 " -> -1009 | book "fee 00001;" -> -1010 | book "less 000001 1" -> -2010 | book "less 1 000001" -> -2012 | book "tier A 000001 1" -> -2012
            book "tier A 1 000001" -> -2014 | book "bulk A 000002 1" -> -2012 | book "tax 000001 1" -> -2009 | book "tax 1 000001" -> -2011
            # It stands ahead of 3 and 6, which are asked when the NUMBER ends.
            book "fee 999999" -> -2009 | book "tier A 5 1;tier A 000005 1" -> -2023 | book "tier A 5 1;tier A 999999 1" -> -2023
            """);
        s.test("Term 1", "3 a NUMBER that is none of those told, at its first digit, asked when it ends", """
            book "fee 20" -> 1 | book "fee 21" -> -3004 | book "fee 00020" -> 1 | book "fee 00021" -> -3004 | book "fee 99999" -> -3004
            book "fee 21x" -> -3004 | book "fee 21 " -> -3004 | book "fee 21;" -> -3004 | book "fee 20x" -> -1006 | book "fee 999990" -> -2009
            """);
        s.test("Term 1", "4 a 21st CLAUSE, where it begins (whatever stands there)", """
            book "%1$s" -> 20 | book "%1$s;fee 1" -> -4120 | book "%1$s;" -> -4120 | book "%1$s;;" -> -4120 | book "%1$s;x" -> -4120
            book "%1$s; " -> -4120 | book "%1$s;\0" -> -4120 | book "%1$s;fee 21" -> -4120 | book "%1$sx" -> -1119 | book "%1$s " -> -1119
            book "%2$s;x;fee 1" -> -1114 | book "%3$s;fee 21" -> -3118
            """.formatted(TWENTY, Checks.times(19, "fee 1"), Checks.times(19, "fee 1")));
    }

    private static void laterFaults(Script s) {
        s.test("Term 1", "6 a fifth TIER, a fourth BULK of a PLAN, at its P", """
            book "%1$s" -> 4 | plan(0, 2) -> 4 | book "%1$s;tier A 5 1" -> -6049 | book "%1$s;tier A" -> -6049 | book "%1$s;tier Ax" -> -6049
            book "%1$s;tier A 1 1" -> -6049 | book "%1$s;tier" -> -1048 | book "%1$s;tier " -> -1049 | book "%1$s;tier B 1 1" -> 5
            book "%2$s" -> 3 | plan(0, 32) -> 4 | book "%2$s;bulk A 9 1" -> -6038 | book "%2$s;bulk A" -> -6038 | book "%2$s;bulk A 1 1" -> -6038
            book "%2$s;bulk" -> -1037 | book "%2$s;bulk " -> -1038 | book "%2$s;bulk B 2 1" -> 4 | book "%2$s;bulk @ 2 1" -> -1038
            """.formatted(FOUR_TIERS, THREE_BULKS));
        s.test("Term 1", "a fifth TAX, at tax", """
            book "%1$s" -> 4 | billIs(13) -> 3 | book "%1$s;tax 4 1" -> -6032 | book "%1$s;tax" -> -6032 | book "%1$s;taxx" -> -1032
            book "%1$s;tax 3653 1" -> -6032 | book "%1$s;ta" -> -1032 | book "%1$s;fee 1" -> 5
            """.formatted(FOUR_TAXES));
        s.test("Term 1", "a B, S, D that is not above all, at its first digit (behind 3)", """
            book "tier A 5 1;tier A 00006 1" -> 2 | book "tier A 5 1;tier A 00005 1" -> -6018 | book "tier A 5 1;tier A 0 1" -> -3018
            book "tier A 5 1;tier A 5" -> -6018 | book "tier A 5 1;tier A 5x" -> -6018 | book "tier A 5 1;tier A x" -> -1018
            book "bulk A 5 1;bulk A 00006 1" -> 2 | book "bulk A 5 1;bulk A 00005 1" -> -6018 | book "bulk A 5 1;bulk A 1 1" -> -3018
            book "bulk A 5 1;bulk A 4x" -> -6018 | book "bulk A 9 1;bulk A 10 1" -> -3018
            book "tax 5 1;tax 00006 1" -> 2 | book "tax 5 1;tax 00005 1" -> -6012 | book "tax 5 1;tax 4x" -> -6012 | book "tax 3652 1;tax 3653 1" -> -3015
            """);
    }

    private static void deeds(Script s) {
        s.test("Promise 12", "DEEDS by the first n bytes of the tape (1 to 200; empty then): how many STEPS were done", """
            feed "days 12" -> 20 | deeds(0) -> -1 | count(2) -> 20 | deeds(6) -> 1 | count(2) -> 0 | count(1) -> 1
            feed "days 12" -> 20 | deeds(7) -> 1 | count(1) -> 13 | feed "days 1" -> 20 | deeds(1) -> -1000 | count(2) -> 0
            deeds "%s" -> 24 | accountIs(0, 7) -> 23 | deeds "on 0" -> 0 | deeds "use 0 1;on 0;use 0 1" -> 1 | accountIs(0, 7) -> 24
            """.formatted(DEEDS_200));
        s.test("Promise 12", "a FAULT (nothing is done)", """
            deeds "begin 0 A 1;days 5;x" -> -1019 | deeds "begin 0 A 1;days 5;days" -> -1023 | deeds "begin 0 A 1;use 0 123456" -> -2023
            deeds "begin 0 A 1;stop 6" -> -3017 | billIs(4) -> 0 | count(0) -> 0 | count(1) -> 0
            """);
        s.test("Promise 12", "NONE: no such n, it has not so many (the tape stays)", """
            deeds(1) -> -1 | feed "days 1" -> 20 | deeds(21) -> -1 | deeds(0) -> -1 | deeds(-1) -> -1 | deeds(MIN) -> -1 | deeds(MAX) -> -1 | count(2) -> 20
            deeds(6) -> 1 | feed "%s" -> 220 | deeds(201) -> -1 | count(2) -> 220 | deeds(200) -> 24 | deeds(1) -> -1
            """.formatted(DEEDS_200 + "1"));
        s.test("Promise 12", "(days is refused with NONE alone.)", """
            9 * days(400) -> 400 | days(52) -> 52 | begin(0, 0, 1) -> -5 | deeds "days 1;days 400;days 5" -> 3 | count(1) -> 3652
            deeds "days 0;days 1" -> 0 | deeds "days 401;days 1" -> 0 | deeds "days 1;days 99999;days 1" -> 1
            """);
        s.test("Term 2", "DEEDS: a TEXT of at most 200 bytes: STEPS with a ; between two, 24 at most", """
            deeds "%1$s" -> 24 | deeds "%1$s1" -> -1 | count(2) -> 220 | deeds(200) -> 0 | accountIs(0, 7) -> 23
            deeds "on 0:on 0" -> -1004 | deeds "on 0<on 0" -> -1004 | deeds "on 0 on 0" -> -1004 | deeds "on 0;;on 0" -> -1005 | deeds ";on 0" -> -1000
            deeds "on 0;" -> -1005 | deeds "%2$s" -> 0 | deeds "%2$s;on 0" -> -4120 | deeds "%3$s;change 0 B" -> 24 | accountIs(0, 0) -> 1 | count(1) -> 23
            """.formatted(DEEDS_200, STEPS_24, Checks.times(23, "days 1")));
        s.test("Term 2", "They are done one by one, till one is refused", """
            book "price A 3100;price B 6200" -> 2
            deeds "begin 0 A 1;begin 0 A 1;begin 1 A 1" -> 1 | billIs(4) -> 1 | deeds "change 0 A;days 1" -> 0 | count(1) -> 0
            deeds "days 10;change 0 B;change 0 B;days 1" -> 2 | count(1) -> 10 | accountIs(0, 8) -> 5200 | deeds "seats 0 10;days 1" -> 0
            deeds "stop 0;use 0 1;days 1" -> 1 | deeds "pay 0 0;days 1" -> 0 | deeds "favour 0 9999;days 1" -> 0 | deeds "turn 99;days 1" -> 0
            deeds "remind 0;days 1" -> 0 | deeds "move 0 1;days 1" -> 0 | deeds "quit 1;days 1" -> 0 | deeds "on 1;days 1" -> 0 | count(1) -> 10
            deeds "remind 1;days 1" -> 0 | deeds "use 1 1;days 1" -> 0 | deeds "use 0 1;days 1" -> 0 | deeds "turn 1;turn 1;days 1" -> 1 | deeds "turn 2;days 1" -> 0
            deeds "on 0;use 0 10000;days 1" -> 1 | deeds "pay 1 1;days 1" -> 0 | deeds "begin 6" -> -3006 | deeds "begin 1 A 32;days 1" -> 0 | count(1) -> 10
            # Answers of 0 are no refusals.
            new | deeds "begin 0 A 1;use 0 0;change 0 B;seats 0 2;stop 0;on 0;move 0 2;turn 0;quit 0" -> 9
            new | book "price A 1" -> 1 | deeds "begin 0 A 1;days 15;remind 0;days 1" -> 4 | accountIs(0, 17) -> 0 | count(0) -> 2
            """);
    }

    private static void steps(Script s) {
        s.test("Term 2", "words and NUMBERS as in THE BOOK: begin X P N, change X P, seats X N, stop X (PAUSE), on X (GO ON), quit X (GIVE UP), use X N, "
            + "days N, favour X N, pay X N, remind X (REMINDED), move X N, turn N", """
            book "price A 3100;price B 6200;rest B 1;fee 10" -> 4
            deeds "begin 1 A 1" -> 1 | accountIs(1, 6) -> 3100 | deeds "change 1 B" -> 1 | accountIs(1, 0) -> 1 | deeds "seats 1 2" -> 1 | accountIs(1, 19) -> 2
            deeds "use 1 7" -> 1 | accountIs(1, 7) -> 7 | deeds "stop 1" -> 1 | accountIs(1, 9) -> 1 | deeds "on 1" -> 1 | accountIs(1, 9) -> 0
            deeds "days 15" -> 1 | count(1) -> 15 | deeds "pay 1 1200" -> 1 | accountIs(1, 18) -> 1200 | late(1, 15) -> 11200 | deeds "remind 1" -> 1
            accountIs(1, 17) -> 1120 | deeds "favour 1 5" -> 1 | accountIs(1, 15) -> -5 | deeds "turn 9" -> 1 | entry(11, 8) -> 9
            deeds "move 1 9" -> 1 | accountIs(1, 1) -> 9 | deeds "quit 1" -> 1 | accountIs(1, 10) -> 1
            deeds "Begin 0 A 1" -> -1000 | deeds "pause 0" -> -1000 | deeds "giveup 0" -> -1000 | deeds "go 0" -> -1000 | deeds "price A 1" -> -1000
            deeds "an 0" -> -1000 | deeds "xuit 0" -> -1000 | deeds "ons 0" -> -1000 | deeds "o 0" -> -1000 | deeds "on0" -> -1002 | deeds "onX 0" -> -1002
            """);
        s.test("Term 2", "(X a digit 0 to 5, P a letter A to F; NUMBERS as they are told below; N 0 to 99999)", """
            deeds "begin 0 A 1;begin 5 F 31" -> 2 | billIs(4) -> 33 | deeds "begin 6 A 1" -> -3006 | deeds "begin 9 A 1" -> -3006 | deeds "begin / A 1" -> -1006
            deeds "begin : A 1" -> -1006 | deeds "begin A A 1" -> -1006 | deeds "begin 1 @ 1" -> -1008 | deeds "begin 1 G 1" -> -1008 | deeds "begin 1 a 1" -> -1008
            deeds "begin 1 A 0" -> 0 | deeds "begin 1 A 32" -> 0 | deeds "begin 1 A 99999" -> 0 | deeds "begin 1 A 100000" -> -2015
            deeds "change 0 @" -> -1009 | deeds "change 0 G" -> -1009 | deeds "change 0 F" -> 1
            deeds "use 0 0" -> 1 | deeds "use 0 99999" -> 0 | deeds "use 0 100000" -> -2011 | deeds "seats 0 99999" -> 0 | deeds "seats 0 100000" -> -2013
            deeds "days 99999" -> 0 | deeds "days 100000" -> -2010 | deeds "favour 0 99999" -> 0 | deeds "favour 0 100000" -> -2014 | deeds "pay 0 99999" -> 1
            deeds "pay 0 100000" -> -2011 | deeds "move 0 99999" -> 0 | deeds "move 0 100000" -> -2012 | deeds "turn 99999" -> 0 | deeds "turn 100000" -> -2010
            """);
    }

    private static void stepFaults(Script s) {
        s.test("Term 2", "FAULTS 1, 2, 3 (an X above 5, a NUMBER above 99999), 4 (a 25th STEP) likewise", """
            deeds "x" -> -1000 | deeds "begi" -> -1000 | deeds "begin" -> -1005 | deeds "begin " -> -1006 | deeds "begin 0" -> -1007 | deeds "begin 0 " -> -1008
            deeds "begin 0 A" -> -1009 | deeds "begin 0 A " -> -1010 | deeds "begin 0 A x" -> -1010 | deeds "begin 0 A 1 " -> -1011 | deeds "begin 0 A 1;" -> -1012
            deeds "begin  0 A 1" -> -1006 | deeds "begin 0  A 1" -> -1008 | deeds "begin 0 A  1" -> -1010 | deeds " begin 0 A 1" -> -1000
            deeds "change 0" -> -1008 | deeds "change 0 B 1" -> -1010 | deeds "stop" -> -1004 | deeds "stop " -> -1005 | deeds "stop 0 1" -> -1006
            deeds "days" -> -1004 | deeds "days " -> -1005 | deeds "days 1 1" -> -1006 | deeds "turn" -> -1004 | deeds "turn A" -> -1005 | deeds "quit A" -> -1005
            deeds "remind" -> -1006 | deeds "remind 0 1" -> -1008 | deeds "on 0\0" -> -1004 | deeds "on 0\377" -> -1004 | deeds "\377" -> -1000
            deeds "days 000001" -> -2010 | deeds "days 1234567" -> -2010 | deeds "use 0 999999" -> -2011 | deeds "days 00001" -> 1
            deeds "on 5" -> 0 | deeds "on 6" -> -3003 | deeds "on 9" -> -3003 | deeds "on 6x" -> -3003 | deeds "on 66" -> -3003 | deeds "on 00" -> -1004
            deeds "on 10" -> -1004 | deeds "days 1;on 6;x" -> -3010 | deeds "days 1;x;on 6" -> -1007
            deeds "%1$s" -> 0 | deeds "%1$s;on 0" -> -4120 | deeds "%1$s;" -> -4120 | deeds "%1$s;;" -> -4120 | deeds "%1$s;x" -> -4120
            deeds "%1$s;on 6" -> -4120 | deeds "%1$s " -> -1119 | deeds "%1$sx" -> -1119
            """.formatted(STEPS_24));
    }

    private static void tried(Script s) {
        s.test("Promise 13", "DEEDS likewise, but nothing stays of them: ALL of an account then", """
            book "price A 3100;price B 6200;rest A 2" -> 3 | tried "begin 0 A 1" 0 -> 3100 | count(0) -> 0 | begin(0, 0, 1) -> 3100 | keep() -> 1
            tried "days 10;change 0 B" 0 -> 5200 | tried "days 10;use 0 5;quit 0" 0 -> 1010 | tried "seats 0 3;days 31" 0 -> 18600
            tried "favour 0 3100" 0 -> 0 | tried "turn 0" 0 -> 0 | tried "turn 0;days 10;quit 0" 0 -> -2100 | tried "pay 0 5" 0 -> 3100
            # As by deeds() all ends with the STEP that is refused, and the tape is empty.
            tried "days 10;change 0 A;change 0 B" 0 -> 3100 | tried "on 0" 0 -> 3100 | tried "stop 0;stop 0;on 0" 0 -> 0 | count(2) -> 0
            tried "begin 5 B 1;days 31" 5 -> 12400 | tried "begin 5 B 1;days 31" 0 -> 6200 | accountIs(5, 0) -> -1000000
            # By the ENTRIES that there are: what is LATE, of which account, whether one was written TODAY, what is turned round.
            new | book "price A 3100;price B 100;fee 10" -> 3 | begin(1, 1, 1) -> 100 | begin(0, 0, 1) -> 3100 | days(10) -> 10 | seats(1, 2) -> 68 | days(5) -> 5
            tried "remind 0" 0 -> 3410 | tried "remind 1" 1 -> 171 | tried "remind 0;remind 0;favour 0 9" 0 -> 3410 | remind(0) -> 310 | tried "remind 0;favour 0 9" 0 -> 3410
            tried "turn 1" 0 -> 310 | tried "turn 2;favour 1 1" 1 -> 235 | turn(4) -> 5 | tried "turn 5;favour 0 1" 0 -> 3100 | tried "turn 4;favour 0 1" 0 -> 3100
            tried "days 10;remind 1" 1 -> 184 | tried "days 9;remind 1" 1 -> 171
            new | book "price A 100;fee 10" -> 2 | begin(0, 0, 1) -> 100 | days(15) -> 15 | remind(0) -> 10 | tried "remind 0;favour 0 9" 0 -> 110
            new | book "price A 100" -> 1 | begin(0, 0, 1) -> 100 | favour(0, 5) -> 95 | turn(1) -> 2 | tried "turn 2;favour 0 9" 0 -> 100 | tried "turn 1;favour 0 9" 0 -> 100
            new | book "price A 3100;price B 6200;rest A 2" -> 3 | begin(0, 0, 1) -> 3100 | keep() -> 1
            # What was KEPT is not touched.
            use(0, 3) -> 3 | tried "use 0 1;days 31" 0 -> 6208 | undo() -> true | accountIs(0, 7) -> 0 | count(0) -> 1
            tried "%s" 0 -> 3100 | accountIs(0, 7) -> 0
            """.formatted(DEEDS_200.substring(12)));
        s.test("Promise 13", "a FAULT", """
            begin(0, 0, 1) -> 0 | tried "days 1;x" 0 -> -1007 | tried "days 1;days 123456" 0 -> -2017 | tried "days 1;on 6" 0 -> -3010
            tried "%s;" 0 -> -4120 | tried "x" 1 -> -1000 | count(2) -> 0 | count(1) -> 0
            """.formatted(STEPS_24));
        s.test("Promise 13", "-1000000: it has not begun then", """
            tried "days 5" 0 -> -1000000 | tried "begin 0 A 1" 1 -> -1000000 | tried "begin 1 A 1" 1 -> 0 | tried "begin 1 A 0" 1 -> -1000000
            tried "days 0;begin 1 A 1" 1 -> -1000000 | count(2) -> 0
            begin(0, 0, 1) -> 0 | giveUp(0) -> 0 | tried "days 1" 0 -> 0
            """);
        s.test("Promise 13", "NONE: no such account, n as above (the tape stays)", """
            tried(1, 0) -> -1 | feed "days 1" -> 20 | tried(0, 0) -> -1 | tried(21, 0) -> -1 | tried(-1, 0) -> -1 | tried(MIN, 0) -> -1 | tried(MAX, 0) -> -1
            tried(6, -1) -> -1 | tried(6, 6) -> -1 | tried(6, MIN) -> -1 | tried(6, MAX) -> -1 | tried(1, 6) -> -1 | count(2) -> 20
            tried(6, 5) -> -1000000 | count(2) -> 0 | feed "%s" -> 220 | tried(201, 0) -> -1 | count(2) -> 220 | tried(200, 0) -> 0 | count(2) -> 0
            """.formatted(DEEDS_200 + "1"));
    }
}
