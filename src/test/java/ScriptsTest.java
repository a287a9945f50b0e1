import java.util.List;

/** Promises 25 and 26. */
public final class ScriptsTest {
    static final List<String> SECTIONS = List.of("Promise 25", "Promise 26");

    private static final Checks CHECKS = new Checks();
    private static final int NONE = FencedRows.NONE;
    private static final int LEAST = Integer.MIN_VALUE;
    private static final int GREATEST = Integer.MAX_VALUE;

    public static void main(String[] args) throws Exception {
        Sentences s = new Sentences(CHECKS, SECTIONS);
        promise25Actions(s);
        promise25Conditions(s);
        promise25Failures(s);
        promise26Turns(s);
        promise26Answers(s);
        s.end();
    }

    private static void promise25Actions(Sentences s) {
        s.in("Promise 25");
        s.holds("Runs a script on a copy of the state.", ScriptsTest::promise25OnACopy);
        s.holds("A script has 1 to 3 commands", ScriptsTest::promise25OneToThree);
        s.holds("each is a group of five decimal digits d1 to d5, and the first command is the highest group of the"
                + " number", ScriptsTest::promise25HighestFirst);
        s.holds("(with zeros before it, if it has fewer digits).", ScriptsTest::promise25FewerDigits);
        s.holds("1 r r 0 b: away(rr, b is 1).", ScriptsTest::promise25Away);
        s.holds("2 r r 0 b: fence(rr, b is 1).", ScriptsTest::promise25Fence);
        s.holds("3 k k 0 v: lie(kk, v less 2).", ScriptsTest::promise25Lie);
        s.holds("4 0 0 0 0: tell().", ScriptsTest::promise25Tell);
        s.holds("5 0 0 0 w: seek(w).", ScriptsTest::promise25Seek);
    }

    private static void promise25Conditions(Sentences s) {
        s.holds("6 n n n n: succeeds if the looks of all searches so far that were actions are at most nnnn.",
                ScriptsTest::promise25AtMostLooks);
        s.holds("7 r r 0 b: succeeds if rowOf(rr, 4) is b.", ScriptsTest::promise25WasTaken);
        s.holds("8 k k n n: succeeds if the block kk has at least nn rows.", ScriptsTest::promise25AtLeastRows);
        s.holds("9 0 0 n n: succeeds if about(8) is at most nn.", ScriptsTest::promise25AtMostMissed);
    }

    private static void promise25Failures(Sentences s) {
        s.holds("The commands 1 to 5 fail if the method would throw an exception", ScriptsTest::promise25WouldThrow);
        s.holds("commands with rows or blocks that do not exist fail", ScriptsTest::promise25NoRowOrBlock);
        s.holds("and so does any other group", ScriptsTest::promise25OtherGroups);
        s.holds("(also one with another digit where a 0 is written", ScriptsTest::promise25DigitForZero);
        s.holds("or a b above 1 in 1 or 2).", ScriptsTest::promise25BAbove1);
        s.holds("All are decimal numbers.", ScriptsTest::promise25Decimal);
        s.holds("n: number of commands, 1 to 3 script: the commands, a number of at most 5 * n digits (0 or more)",
                ScriptsTest::promise25Digits);
        s.holds("Returns the index, from 0, of the first command that fails; NONE if all succeed.",
                ScriptsTest::promise25Index);
        s.holds("Throws IllegalArgumentException if n is out of range", ScriptsTest::promise25NoCount);
        s.holds("or if script is negative or has more than 5 * n digits", ScriptsTest::promise25NoScript);
    }

    private static void promise26Turns(Sentences s) {
        s.in("Promise 26");
        s.holds("Simulates m turns on a copy of the state.", ScriptsTest::promise26OnACopy);
        s.holds("A long x starts as the seed.", ScriptsTest::promise26Seeds);
        s.holds("Each turn first replaces x by x * 6364136223846793005L + 1442695040888963407L (with long overflow),"
                + " and r = (int) (x >>> 33) is computed.", ScriptsTest::promise26Numbers);
        s.holds("q is r / 8. By r % 8:", ScriptsTest::promise26Kinds);
        s.holds("0 and 1: away(q % 48, q / 48 % 3 is not 0).", ScriptsTest::promise26Away);
        s.holds("2: weigh(q % 48, 1 + q / 48 % 99).", ScriptsTest::promise26Weigh);
        s.holds("3: fence(1 + q % 47, q / 64 % 2 is 0).", ScriptsTest::promise26Fence);
        s.holds("4: tell().", ScriptsTest::promise26Tell);
        s.holds("5: lie(q % 12, q / 16 % 5 - 2), if q / 128 % 2 is 0", ScriptsTest::promise26Lie);
        s.holds("otherwise trust(q % 2).", ScriptsTest::promise26Trust);
        s.holds("Otherwise: seek(q % 3).", ScriptsTest::promise26Seek);
        s.holds("What would throw an exception is left out.", ScriptsTest::promise26LeftOut);
    }

    private static void promise26Answers(Sentences s) {
        s.holds("seed: any long", ScriptsTest::promise26AnyLong);
        s.holds("m: number of turns, 1 to 60", ScriptsTest::promise26Counts);
        s.holds("Returns 1000 * (the looks of the searches in the turns)", ScriptsTest::promise26Looks);
        s.holds("+ 10 * about(6) +", ScriptsTest::promise26Taken);
        s.holds("(about(7), or 9 if it is more)", ScriptsTest::promise26Wrong);
        s.holds("both at the end.", ScriptsTest::promise26AtTheEnd);
        s.holds("Throws IllegalArgumentException if m is out of range", ScriptsTest::promise26Throws);
    }

    // ---- promise 25

    /** Rows 0 to 3, which weigh 1, 1, 1 and 2, in a block of their own. */
    private static FencedRows meadow() {
        return Meadows.front(1, 1, 1, 2);
    }

    private static FencedRows untrusted() {
        FencedRows x = meadow();
        x.trust(0);
        return x;
    }

    private static void runs(String what, Checks.Maker maker, int n, long script, int due) {
        CHECKS.answers(what + ", " + script, maker, x -> x.runScript(n, script), due);
    }

    private static void one(String what, Checks.Maker maker, int group, boolean succeeds) {
        runs(what, maker, 1, group, succeeds ? NONE : 0);
    }

    private static void promise25OnACopy() {
        CHECKS.keeps("all succeed", Meadows::lived, x -> x.runScript(3, 100014000050000L));
        CHECKS.keeps("the first fails", Meadows::lived, x -> x.runScript(3, 148014000050000L));
        CHECKS.keeps("the last fails", Meadows::lived, x -> x.runScript(3, 220013000450003L));
        FencedRows x = meadow();
        CHECKS.is("a fence in a script", x.runScript(2, 2020180020L), 1);
        CHECKS.is("not in the next one", x.runScript(1, 80005L), 0);
        CHECKS.is("nor in the state", x.runScript(1, 80144L), NONE);
    }

    private static void promise25OneToThree() {
        runs("one", ScriptsTest::meadow, 1, 40000L, NONE);
        runs("two", ScriptsTest::meadow, 2, 4000050000L, NONE);
        runs("three", ScriptsTest::meadow, 3, 100014000050000L, NONE);
    }

    private static void promise25HighestFirst() {
        runs("sums ahead of a search", ScriptsTest::meadow, 2, 4000050000L, NONE);
        runs("a search ahead of sums", ScriptsTest::meadow, 2, 5000040000L, 0);
        runs("sums in the middle", ScriptsTest::meadow, 3, 100014000050000L, NONE);
        runs("sums at the end", ScriptsTest::meadow, 3, 100015000040000L, 1);
        runs("a fence ahead of its block", ScriptsTest::meadow, 2, 2020180200L, NONE);
        runs("a block ahead of its fence", ScriptsTest::meadow, 2, 8020020201L, 0);
    }

    private static void promise25FewerDigits() {
        runs("no digits", ScriptsTest::meadow, 1, 0L, 0);
        runs("no digits of two", ScriptsTest::meadow, 2, 0L, 0);
        runs("no digits of three", ScriptsTest::meadow, 3, 0L, 0);
        runs("five digits of two", ScriptsTest::meadow, 2, 40000L, 0);
        runs("ten digits of three", ScriptsTest::meadow, 3, 4000040000L, 0);
        runs("four digits of one", ScriptsTest::meadow, 1, 4000L, 0);
        runs("nine digits of two", ScriptsTest::meadow, 2, 400040000L, 0);
    }

    private static void promise25Away() {
        runs("row 00 goes", ScriptsTest::untrusted, 3, 100015000070001L, NONE);
        runs("row 47 goes", ScriptsTest::untrusted, 3, 147015000074701L, NONE);
        runs("row 47 goes, not row 46", ScriptsTest::untrusted, 3, 147015000074601L, 2);
        Checks.Maker away = () -> {
            FencedRows x = untrusted();
            x.away(47, true);
            return x;
        };
        runs("row 47 comes back", away, 3, 147005000074700L, NONE);
        runs("row 46 comes back", away, 3, 146005000074700L, 2);
        one("row 0 again there", ScriptsTest::meadow, 10000, true);
    }

    private static void promise25Fence() {
        runs("at 01", ScriptsTest::meadow, 2, 2010180001L, NONE);
        runs("at 01, no more rows ahead of it", ScriptsTest::meadow, 2, 2010180002L, 1);
        runs("at 47", ScriptsTest::meadow, 2, 2470180201L, NONE);
        runs("at 47, no more rows behind it", ScriptsTest::meadow, 2, 2470180202L, 1);
        runs("taken at 04", ScriptsTest::meadow, 2, 2040080048L, NONE);
        runs("none to take at 05", ScriptsTest::meadow, 2, 2050080005L, 1);
        one("put again", ScriptsTest::meadow, 20401, true);
    }

    private static void promise25Lie() {
        for (int v = 0; v <= 9; v++) {
            one("digit " + v, ScriptsTest::meadow, 30000 + v, v <= 4);
            one("digit " + v + " of block 1", ScriptsTest::meadow, 30100 + v, v <= 4);
            one("digit " + v + " of block 11", Meadows::fullOfFences, 31100 + v, v <= 4);
        }
    }

    private static void promise25Tell() {
        one("alone", ScriptsTest::meadow, 40000, true);
        runs("a search behind it", ScriptsTest::meadow, 2, 4000050002L, NONE);
        Checks.Maker late = () -> {
            FencedRows x = meadow();
            x.tell();
            x.away(1, true);
            return x;
        };
        runs("told again it is found", late, 3, 400005000070101L, NONE);
        runs("not told again it is not", late, 2, 5000070101L, 1);
    }

    private static void promise25Seek() {
        Checks.Maker last = () -> {
            FencedRows x = Meadows.front(1, 1, 1, 9);
            x.away(3, true);
            x.tell();
            return x;
        };
        runs("by rows, 2 looks", last, 2, 5000060001L, 1);
        runs("by rows, 2 looks", last, 2, 5000060002L, NONE);
        runs("by weights, 1 look", last, 2, 5000160000L, 1);
        runs("by weights, 1 look", last, 2, 5000160001L, NONE);
        runs("by losses, 2 looks", last, 2, 5000260001L, 1);
        runs("it takes the row", last, 2, 5000070301L, NONE);
    }

    /** Row 1 is away and told, rows 2 and 3 went away since then; the search has two looks. */
    private static FencedRows searched() {
        FencedRows x = meadow();
        x.away(1, true);
        x.tell();
        x.away(2, true);
        x.away(3, true);
        x.seek(0);
        return x;
    }

    /** Every second row away, and so many searches that there are more than 9999 looks. */
    private static FencedRows manyLooks() {
        FencedRows x = new FencedRows();
        x.trust(0);
        for (int r = 0; r < 48; r += 2) {
            x.away(r, true);
        }
        for (int i = 0; i < 430 && x.about(5) <= 9999; i++) {
            x.seek(0);
        }
        return x;
    }

    private static void promise25AtMostLooks() {
        one("none so far", FencedRows::new, 60000, true);
        one("2 are at most 1", ScriptsTest::searched, 60001, false);
        one("2 are at most 2", ScriptsTest::searched, 60002, true);
        one("2 are at most 3", ScriptsTest::searched, 60003, true);
        one("2 are at most 9999", ScriptsTest::searched, 69999, true);
        one("2 are at most 1000", ScriptsTest::searched, 61000, true);
        CHECKS.yes("more than 9999 looks", manyLooks().about(5) > 9999);
        one("more than 9999", ScriptsTest::manyLooks, 69999, false);
        runs("those of the script, too", ScriptsTest::searched, 2, 5000060003L, 1);
        runs("both together", ScriptsTest::searched, 2, 5000060004L, NONE);
    }

    private static void promise25WasTaken() {
        one("taken", ScriptsTest::searched, 70101, true);
        one("taken, but 0 is asked", ScriptsTest::searched, 70100, false);
        one("not taken", ScriptsTest::searched, 70200, true);
        one("not taken, but 1 is asked", ScriptsTest::searched, 70201, false);
        one("the last row", ScriptsTest::searched, 74700, true);
        one("the last row, but 1 is asked", ScriptsTest::searched, 74701, false);
        for (int b = 2; b <= 9; b++) {
            one("taken, " + b, ScriptsTest::searched, 70100 + b, false);
            one("not taken, " + b, ScriptsTest::searched, 70200 + b, false);
        }
        one("ahead of the first search", ScriptsTest::meadow, 70100, true);
    }

    private static void promise25AtLeastRows() {
        one("4 of 4", ScriptsTest::meadow, 80004, true);
        one("5 of 4", ScriptsTest::meadow, 80005, false);
        one("3 of 4", ScriptsTest::meadow, 80003, true);
        one("0 of 4", ScriptsTest::meadow, 80000, true);
        one("44 of 44", ScriptsTest::meadow, 80144, true);
        one("45 of 44", ScriptsTest::meadow, 80145, false);
        one("48 of 48", FencedRows::new, 80048, true);
        one("49 of 48", FencedRows::new, 80049, false);
        one("99 of 48", FencedRows::new, 80099, false);
        one("1 of 1", Meadows::fullOfFences, 81001, true);
        one("37 of block 11", Meadows::fullOfFences, 81137, true);
    }

    private static FencedRows allMissed() {
        FencedRows x = new FencedRows();
        x.tell();
        for (int r = 0; r < 48; r++) {
            x.away(r, true);
        }
        x.seek(0);
        return x;
    }

    private static void promise25AtMostMissed() {
        one("none ahead of the first search", ScriptsTest::meadow, 90000, true);
        one("2 are at most 1", ScriptsTest::searched, 90001, false);
        one("2 are at most 2", ScriptsTest::searched, 90002, true);
        one("2 are at most 99", ScriptsTest::searched, 90099, true);
        one("48 are at most 47", ScriptsTest::allMissed, 90047, false);
        one("48 are at most 48", ScriptsTest::allMissed, 90048, true);
        runs("in a search of the script", ScriptsTest::searched, 3, 400005000090000L, NONE);
    }

    private static void promise25WouldThrow() {
        one("away, no such row", ScriptsTest::meadow, 14801, false);
        one("back, no such row", ScriptsTest::meadow, 19900, false);
        one("fence, no such place", ScriptsTest::meadow, 20001, false);
        one("fence, no such place", ScriptsTest::meadow, 24801, false);
        one("fence to take, no such place", ScriptsTest::meadow, 20000, false);
        one("the twelfth fence", Meadows::fullOfFences, 21201, false);
        one("one of eleven again", Meadows::fullOfFences, 21101, true);
        one("none of eleven to take", Meadows::fullOfFences, 21200, true);
        one("lie, no such block", ScriptsTest::meadow, 30202, false);
        one("lie, no such lie", ScriptsTest::meadow, 30005, false);
        one("seek, no sums", ScriptsTest::meadow, 50000, false);
        one("seek, no such way", ScriptsTest::untrusted, 50003, false);
        one("seek, untrusted", ScriptsTest::untrusted, 50002, true);
        runs("seek, no sums any more", ScriptsTest::searched, 2, 2200150000L, 1);
    }

    private static void promise25NoRowOrBlock() {
        for (int r = 48; r <= 99; r += 3) {
            one("row " + r, ScriptsTest::meadow, 70000 + 100 * r, false);
            one("row " + r + " away", ScriptsTest::meadow, 10000 + 100 * r, false);
        }
        for (int k = 2; k <= 99; k += 7) {
            one("block " + k, ScriptsTest::meadow, 80000 + 100 * k, false);
            one("lie of block " + k, ScriptsTest::meadow, 30002 + 100 * k, false);
        }
        one("block 12 of twelve", Meadows::fullOfFences, 81200, false);
        one("block 11 of twelve", Meadows::fullOfFences, 81100, true);
        runs("a block that a fence of the script makes", ScriptsTest::meadow, 2, 2200180200L, NONE);
        runs("a block that is gone in the script", ScriptsTest::meadow, 2, 2040080100L, 1);
    }

    private static void promise25OtherGroups() {
        for (int rest = 0; rest <= 9999; rest += 101) {
            one("command 0", ScriptsTest::meadow, rest, false);
        }
        runs("the greatest of one", ScriptsTest::meadow, 1, 99999L, 0);
        runs("the greatest of two", ScriptsTest::meadow, 2, 9999999999L, 0);
        runs("the greatest of three", ScriptsTest::meadow, 3, 999999999999999L, 0);
        runs("command 0 in the middle", ScriptsTest::meadow, 3, 400000000040000L, 1);
    }

    private static void promise25DigitForZero() {
        for (int digit = 1; digit <= 9; digit++) {
            one("away, d4", ScriptsTest::meadow, 10001 + 10 * digit, false);
            one("fence, d4", ScriptsTest::meadow, 20101 + 10 * digit, false);
            one("lie, d4", ScriptsTest::meadow, 30000 + 10 * digit, false);
            one("tell, d2", ScriptsTest::meadow, 40000 + 1000 * digit, false);
            one("tell, d3", ScriptsTest::meadow, 40000 + 100 * digit, false);
            one("tell, d4", ScriptsTest::meadow, 40000 + 10 * digit, false);
            one("tell, d5", ScriptsTest::meadow, 40000 + digit, false);
            one("seek, d2", ScriptsTest::untrusted, 50000 + 1000 * digit, false);
            one("seek, d3", ScriptsTest::untrusted, 50000 + 100 * digit, false);
            one("seek, d4", ScriptsTest::untrusted, 50000 + 10 * digit, false);
            one("taken, d4", ScriptsTest::meadow, 70000 + 10 * digit, false);
            one("missed, d2", ScriptsTest::meadow, 90000 + 1000 * digit, false);
            one("missed, d3", ScriptsTest::meadow, 90000 + 100 * digit, false);
            one("missed, d4 is of nn", ScriptsTest::meadow, 90000 + 10 * digit, true);
            one("looks, d2 is of nnnn", ScriptsTest::meadow, 60000 + 1000 * digit, true);
        }
    }

    private static void promise25BAbove1() {
        for (int b = 0; b <= 9; b++) {
            one("away, b is " + b, ScriptsTest::meadow, 10000 + b, b <= 1);
            one("fence, b is " + b, ScriptsTest::meadow, 20100 + b, b <= 1);
        }
    }

    private static void promise25Decimal() {
        runs("row 10", ScriptsTest::untrusted, 3, 110015000071001L, NONE);
        runs("row 08", ScriptsTest::untrusted, 3, 108015000070801L, NONE);
        one("block 10", Meadows::fullOfFences, 81001, true);
        one("10 rows of 4", ScriptsTest::meadow, 80010, false);
        one("10 rows of 44", ScriptsTest::meadow, 80110, true);
    }

    private static void promise25Digits() {
        runs("5 of 5", ScriptsTest::meadow, 1, 40000L, NONE);
        runs("10 of 10", ScriptsTest::meadow, 2, 4000040000L, NONE);
        runs("15 of 15", ScriptsTest::meadow, 3, 400004000040000L, NONE);
        runs("the greatest of 5", ScriptsTest::meadow, 1, 99999L, 0);
        CHECKS.throwsArgument("6 of 5", Meadows::lived, x -> x.runScript(1, 400000L));
        CHECKS.throwsArgument("11 of 10", Meadows::lived, x -> x.runScript(2, 40000400000L));
        CHECKS.throwsArgument("16 of 15", Meadows::lived, x -> x.runScript(3, 4000040000400000L));
    }

    private static void promise25Index() {
        runs("all succeed", ScriptsTest::meadow, 3, 100014000050000L, NONE);
        runs("the first fails", ScriptsTest::meadow, 3, 148014000050000L, 0);
        runs("the second fails", ScriptsTest::meadow, 3, 100014000150000L, 1);
        runs("the third fails", ScriptsTest::meadow, 3, 100014000050003L, 2);
        runs("all fail", ScriptsTest::meadow, 3, 148014000150003L, 0);
        runs("the last two fail", ScriptsTest::meadow, 3, 100014000150003L, 1);
        runs("one of one", ScriptsTest::meadow, 1, 50000L, 0);
        runs("the second of two", ScriptsTest::meadow, 2, 4000050003L, 1);
    }

    private static void promise25NoCount() {
        for (int n : new int[] {0, 4, -1, LEAST, GREATEST}) {
            CHECKS.throwsArgument("n " + n, Meadows::lived, x -> x.runScript(n, 40000L));
            CHECKS.throwsArgument("n " + n + ", script 0", Meadows::lived, x -> x.runScript(n, 0L));
            CHECKS.throwsArgument("n " + n + ", script -1", Meadows::lived, x -> x.runScript(n, -1L));
        }
    }

    private static void promise25NoScript() {
        long[] tooLong = {100000L, 10000000000L, 1000000000000000L};
        for (int n = 1; n <= 3; n++) {
            int count = n;
            for (long script : new long[] {tooLong[n - 1], -1L, -40000L, Long.MAX_VALUE, Long.MIN_VALUE}) {
                CHECKS.throwsArgument("script " + script + " of " + n, Meadows::lived, x -> x.runScript(count, script));
            }
            long greatest = tooLong[n - 1] - 1;
            CHECKS.throwsNothing("script " + greatest + " of " + n, Meadows::lived, x -> x.runScript(count, greatest));
        }
    }

    // ---- promise 26

    private static void simulates(String what, long seed, int m) {
        FencedRows hand = Turns.meadow();
        int looks = Turns.byHand(hand, seed, m);
        CHECKS.answers(what, Turns::meadow, x -> x.simulate(seed, m), Turns.answer(looks, hand));
    }

    private static void promise26OnACopy() {
        CHECKS.keeps("60 turns", Meadows::lived, x -> x.simulate(5L, 60));
        FencedRows x = Turns.meadow();
        CHECKS.is("the same again", x.simulate(5L, 60), Turns.meadow().simulate(5L, 60));
        CHECKS.is("and again", x.simulate(5L, 60), x.simulate(5L, 60));
    }

    private static void promise26Seeds() {
        for (long seed = -20; seed <= 20; seed++) {
            simulates("seed " + seed, seed, 30);
        }
    }

    private static void promise26Numbers() {
        for (long x : new long[] {0L, -1L, 1L << 33, -1L >>> 1, Long.MIN_VALUE, 0xFFFFFFFF00000000L, 7L << 33}) {
            simulates("the first x is " + x, Turns.seedFor(x), 12);
        }
        for (int turns = 1; turns <= 60; turns++) {
            simulates(turns + " turns", 987654321987654321L, turns);
        }
    }

    private static void promise26Kinds() {
        for (int r = 0; r < 400; r++) {
            simulates("r " + r, Turns.seedFor((long) r << 33), 9);
        }
        for (int r = GREATEST - 40; r > 0; r++) {
            simulates("r " + r, Turns.seedFor((long) r << 33), 9);
        }
    }

    private static void promise26Away() {
        for (int kind = 0; kind <= 1; kind++) {
            Turns.same(CHECKS, "q 0", kind, 0, x -> x.away(0, false), x -> x.away(0, true));
            Turns.same(CHECKS, "q 10", kind, 10, x -> x.away(10, false), x -> x.away(10, true));
            Turns.same(CHECKS, "q 55", kind, 55, x -> x.away(7, true), x -> x.away(7, false));
            Turns.same(CHECKS, "q 95", kind, 95, x -> x.away(47, true), x -> x.away(47, false));
            Turns.same(CHECKS, "q 103", kind, 103, x -> x.away(7, true), x -> x.away(7, false));
            Turns.same(CHECKS, "q 154", kind, 154, x -> x.away(10, false), x -> x.away(10, true));
            Turns.same(CHECKS, "the greatest q", kind, 268435455, x -> x.away(15, false), x -> x.away(15, true));
        }
    }

    private static void promise26Weigh() {
        Turns.same(CHECKS, "q 5", 2, 5, x -> x.weigh(5, 1), x -> x.weigh(5, 2));
        Turns.same(CHECKS, "q 53", 2, 53, x -> x.weigh(5, 2), x -> x.weigh(5, 1));
        Turns.same(CHECKS, "q 4707", 2, 4707, x -> x.weigh(3, 99), x -> x.weigh(3, 1));
        Turns.same(CHECKS, "q 4757", 2, 4757, x -> x.weigh(5, 1), x -> x.weigh(5, 99));
    }

    private static void promise26Fence() {
        Turns.same(CHECKS, "q 0", 3, 0, x -> x.fence(1, true), x -> x.fence(2, true));
        Turns.same(CHECKS, "q 46", 3, 46, x -> x.fence(47, true), x -> x.fence(46, true));
        Turns.same(CHECKS, "q 47", 3, 47, x -> x.fence(1, true), x -> x.fence(47, true));
        Turns.same(CHECKS, "q 63", 3, 63, x -> x.fence(17, true), x -> x.fence(17, false));
        Turns.same(CHECKS, "q 101", 3, 101, x -> x.fence(8, false), x -> x.fence(8, true));
        Turns.same(CHECKS, "q 128", 3, 128, x -> x.fence(35, true), x -> x.fence(35, false));
    }

    private static void promise26Tell() {
        Turns.same(CHECKS, "q 0", 4, 0, FencedRows::tell, x -> x.about(0));
        Turns.same(CHECKS, "the greatest q", 4, 268435455, FencedRows::tell, x -> x.about(0));
    }

    private static void promise26Lie() {
        Turns.same(CHECKS, "q 0", 5, 0, x -> x.lie(0, -2), x -> x.lie(0, 0));
        Turns.same(CHECKS, "q 27", 5, 27, x -> x.lie(3, -1), x -> x.lie(3, 0));
        Turns.same(CHECKS, "q 40", 5, 40, x -> x.lie(4, 0), x -> x.lie(4, 2));
        Turns.same(CHECKS, "q 77", 5, 77, x -> x.lie(5, 2), x -> x.lie(5, -2));
        Turns.same(CHECKS, "q 98", 5, 98, x -> x.lie(2, -1), x -> x.lie(2, 1));
        Turns.same(CHECKS, "q 256", 5, 256, x -> x.lie(4, -1), x -> x.trust(0));
    }

    private static void promise26Trust() {
        Turns.same(CHECKS, "q 128", 5, 128, x -> x.trust(0), x -> x.trust(1));
        Turns.same(CHECKS, "q 255", 5, 255, x -> x.trust(1), x -> x.trust(0));
        Turns.same(CHECKS, "q 384", 5, 384, x -> x.trust(0), x -> x.lie(0, 2));
    }

    private static void promise26Seek() {
        for (int kind = 6; kind <= 7; kind++) {
            Turns.same(CHECKS, "q 0", kind, 0, x -> x.seek(0), x -> x.seek(1));
            Turns.same(CHECKS, "q 1", kind, 1, x -> x.seek(1), x -> x.seek(2));
            Turns.same(CHECKS, "q 2", kind, 2, x -> x.seek(2), x -> x.seek(1));
            Turns.same(CHECKS, "q 3", kind, 3, x -> x.seek(0), x -> x.seek(1));
            Turns.same(CHECKS, "the greatest q", kind, 268435455, x -> x.seek(0), x -> x.seek(1));
        }
    }

    private static void promise26LeftOut() {
        Turns.same(CHECKS, "a lie of no block", 5, 6, x -> x.about(0), x -> x.lie(5, -2));
        Turns.same(CHECKS, "a lie of no block", 5, 11, x -> x.about(0), x -> x.lie(5, -2));
        CHECKS.answers("a search without sums", FencedRows::new, x -> x.simulate(Turns.seedFor(6L << 33), 1), 0);
        CHECKS.answers("a search untrusted", FencedRows::new,
                x -> x.trust(0) * 0 + x.simulate(Turns.seedFor(6L << 33), 1), 1000);
        for (long seed = 0; seed < 20; seed++) {
            long s = seed;
            FencedRows hand = fullMeadow();
            int looks = Turns.byHand(hand, s, 60);
            CHECKS.answers("the twelfth fence, seed " + s, ScriptsTest::fullMeadow, x -> x.simulate(s, 60),
                    Turns.answer(looks, hand));
        }
    }

    private static FencedRows fullMeadow() {
        FencedRows x = Meadows.fullOfFences();
        x.trust(0);
        return x;
    }

    private static void promise26AnyLong() {
        for (long seed : new long[] {0L, 1L, -1L, Long.MIN_VALUE, Long.MAX_VALUE, 1L << 32, -1L << 32, 123456789012L}) {
            simulates("seed " + seed, seed, 60);
        }
    }

    private static void promise26Counts() {
        for (int m : new int[] {1, 2, 59, 60}) {
            simulates(m + " turns", 31L, m);
            simulates(m + " turns", -31L, m);
        }
    }

    private static long onlyTell() {
        return Turns.seedFor(4L << 33);
    }

    private static void promise26Looks() {
        FencedRows x = new FencedRows();
        x.trust(0);
        for (int i = 0; i < 9; i++) {
            x.seek(0);
        }
        CHECKS.is("those ahead of the turns do not count", x.simulate(onlyTell(), 1), 0);
        CHECKS.is("one look in one turn", x.simulate(Turns.seedFor(6L << 33), 1), 1000);
        CHECKS.is("none at all", new FencedRows().simulate(onlyTell(), 1), 0);
    }

    private static FencedRows twelveTaken() {
        FencedRows x = new FencedRows();
        for (int r = 0; r < 12; r++) {
            x.away(r, true);
        }
        x.trust(0);
        x.seek(0);
        return x;
    }

    private static void promise26Taken() {
        CHECKS.answers("of the latest search ahead of the turns", ScriptsTest::twelveTaken,
                x -> x.simulate(onlyTell(), 1), 120);
        CHECKS.answers("of a search in the turns", ScriptsTest::twelveTaken,
                x -> x.away(0, false) * 0 + x.simulate(Turns.seedFor(6L << 33), 1) % 1000, 110);
        CHECKS.answers("0 ahead of the first one", FencedRows::new, x -> x.simulate(onlyTell(), 1), 0);
    }

    /** So many rows are taken wrongly: they came back since the telling, and all their block was lacking. */
    private static FencedRows wrongly(int rows) {
        FencedRows x = new FencedRows();
        x.fence(rows, true);
        for (int r = 0; r < rows; r++) {
            x.away(r, true);
        }
        x.tell();
        for (int r = 0; r < rows; r++) {
            x.away(r, false);
        }
        x.seek(0);
        return x;
    }

    private static void promise26Wrong() {
        for (int rows : new int[] {1, 8, 9, 10, 11, 47}) {
            CHECKS.is(rows + " taken wrongly", wrongly(rows).about(7), rows);
            CHECKS.answers(rows + " in the answer", () -> wrongly(rows), x -> x.simulate(onlyTell(), 1),
                    10 * rows + Math.min(9, rows));
        }
    }

    private static void promise26AtTheEnd() {
        FencedRows x = wrongly(5);
        x.trust(0);
        CHECKS.is("a search in the turns takes none", x.simulate(Turns.seedFor(6L << 33), 1), 2000);
        CHECKS.is("the state has the latest of its own", x.about(6) + x.about(7), 10);
    }

    private static void promise26Throws() {
        for (int m : new int[] {0, 61, -1, LEAST, GREATEST}) {
            CHECKS.throwsArgument("m " + m, Meadows::lived, x -> x.simulate(1L, m));
        }
    }
}
