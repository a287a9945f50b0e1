/** Promises 25 and 26. */
public final class ScriptsTest {
    private static final Checks CHECKS = new Checks();

    public static void main(String[] args) {
        promise25Actions();
        promise25Conditions();
        promise25Order();
        promise25OtherDigits();
        promise25Throws();
        promise25OnACopy();
        promise26EachTurn();
        promise26ManyTurns();
        promise26Throws();
        CHECKS.end();
    }

    /** Rows 0 to 3, which weigh 1, 1, 1 and 2, in a block of their own. */
    private static FencedRows meadow() {
        FencedRows x = new FencedRows();
        x.fence(4, true);
        x.weigh(3, 2);
        return x;
    }

    private static void one(String what, FencedRows x, int group, boolean succeeds) {
        CHECKS.is("25: " + what + ", " + group, x.runScript(1, group), succeeds ? FencedRows.NONE : 0);
    }

    private static void promise25Actions() {
        FencedRows x = meadow();
        one("away", x, 10001, true);
        one("away", x, 14701, true);
        one("back", x, 14700, true);
        one("no such row", x, 14801, false);
        one("no such row", x, 19900, false);
        one("fence", x, 20101, true);
        one("fence", x, 24701, true);
        one("fence taken", x, 20400, true);
        one("no such place", x, 20001, false);
        one("no such place", x, 24801, false);
        one("lie", x, 30100, true);
        one("lie", x, 30104, true);
        one("no such lie", x, 30105, false);
        one("no such block", x, 30202, false);
        one("tell", x, 40000, true);
        one("no sums", x, 50000, false);
        CHECKS.is("25: sums in the script", x.runScript(2, 4000050002L), FencedRows.NONE);
        CHECKS.is("25: no such way", x.runScript(2, 4000050003L), 1);
        x.trust(0);
        one("untrusted", x, 50001, true);
        FencedRows full = new FencedRows();
        full.spread(11);
        one("the twelfth fence", full, 20101, false);
        one("one of eleven again", full, 20401, true);
        one("one that is not there", full, 20100, true);
        one("block 11", full, 31104, true);
        one("block 12", full, 31202, false);
    }

    private static void promise25Conditions() {
        FencedRows x = meadow();
        x.away(1, true);
        x.tell();
        x.away(2, true);
        x.away(3, true);
        int looks = x.seek(0);
        CHECKS.yes("25: the search needs some looks", looks > 1);
        one("at most the looks", x, 60000 + looks, true);
        one("at most one less", x, 60000 + looks - 1, false);
        one("at most all", x, 69999, true);
        one("taken", x, 70100 + x.rowOf(1, 4), true);
        one("taken, the other way", x, 70100 + 1 - x.rowOf(1, 4), false);
        one("not taken", x, 74700, true);
        one("not taken, the other way", x, 74701, false);
        one("neither", x, 74702, false);
        one("no such row", x, 74800, false);
        one("rows of block 0", x, 80004, true);
        one("one more", x, 80005, false);
        one("rows of block 1", x, 80144, true);
        one("one more", x, 80145, false);
        one("ninety-nine", x, 80199, false);
        one("no rows", x, 80100, true);
        one("no such block", x, 80200, false);
        int missed = x.about(8);
        CHECKS.yes("25: the search misses some", missed > 0);
        one("at most those missed", x, 90000 + missed, true);
        one("at most one less", x, 90000 + missed - 1, false);
        one("at most 99", x, 90099, true);
        one("none at first", meadow(), 90000, true);
        one("no looks at first", meadow(), 60000, true);
    }

    private static void promise25Order() {
        FencedRows x = meadow();
        CHECKS.is("25: all three succeed", x.runScript(3, 100014000050000L), FencedRows.NONE);
        CHECKS.is("25: the first fails", x.runScript(3, 148014000050000L), 0);
        CHECKS.is("25: the second fails", x.runScript(3, 100014000150000L), 1);
        CHECKS.is("25: the third fails", x.runScript(3, 100014000050003L), 2);
        CHECKS.is("25: it sees what came before", x.runScript(3, 202018000280003L), 2);
        CHECKS.is("25: and that alone", x.runScript(3, 202018024480102L), FencedRows.NONE);
        CHECKS.is("25: zeros in front are a command", x.runScript(2, 40000L), 0);
        CHECKS.is("25: 0", x.runScript(1, 0L), 0);
        CHECKS.is("25: 0 with three", x.runScript(3, 0L), 0);
        CHECKS.is("25: the greatest of one", x.runScript(1, 99999L), 0);
        CHECKS.is("25: the greatest of two", x.runScript(2, 9999999999L), 0);
        CHECKS.is("25: the greatest of three", x.runScript(3, 999999999999999L), 0);
        x.away(0, true);
        x.tell();
        CHECKS.is("25: row 0 is taken in the script", x.runScript(2, 5000070001L), FencedRows.NONE);
        CHECKS.is("25: its looks count in the script", x.runScript(2, 5000060001L), 1);
        CHECKS.is("25: and are two", x.runScript(2, 5000060002L), FencedRows.NONE);
        CHECKS.is("25: missed in the script", x.runScript(3, 120015000090000L), 2);
        CHECKS.is("25: one of them", x.runScript(3, 120015000090001L), FencedRows.NONE);
    }

    private static void promise25OtherDigits() {
        FencedRows x = meadow();
        x.tell();
        for (int digit = 1; digit <= 9; digit++) {
            one("no such command with 0", x, 1000 * digit, false);
            one("away, a digit for a 0", x, 10001 + 10 * digit, false);
            one("fence, a digit for a 0", x, 20101 + 10 * digit, false);
            one("lie, a digit for a 0", x, 30000 + 10 * digit, false);
            one("tell, the second digit", x, 40000 + 1000 * digit, false);
            one("tell, the third digit", x, 40000 + 100 * digit, false);
            one("tell, the fourth digit", x, 40000 + 10 * digit, false);
            one("tell, the fifth digit", x, 40000 + digit, false);
            one("seek, the second digit", x, 50000 + 1000 * digit, false);
            one("seek, the third digit", x, 50000 + 100 * digit, false);
            one("seek, the fourth digit", x, 50000 + 10 * digit, false);
            one("taken, a digit for a 0", x, 70000 + 10 * digit, false);
            one("missed, the second digit", x, 90000 + 1000 * digit, false);
            one("missed, the third digit", x, 90000 + 100 * digit, false);
            one("missed, a number of two digits", x, 90000 + 10 * digit, true);
        }
        for (int b = 2; b <= 9; b++) {
            one("away, b above 1", x, 10000 + b, false);
            one("fence, b above 1", x, 20100 + b, false);
            one("taken, b above 1", x, 70000 + b, false);
        }
    }

    private static void promise25Throws() {
        FencedRows x = meadow();
        for (int n : new int[] {0, 4, -1, Integer.MIN_VALUE, Integer.MAX_VALUE}) {
            CHECKS.throwsArgument("25: n " + n, x, () -> x.runScript(n, 40000L));
            CHECKS.throwsArgument("25: n " + n + ", script 0", x, () -> x.runScript(n, 0L));
        }
        long[] tooLong = {100000L, 10000000000L, 1000000000000000L};
        for (int n = 1; n <= 3; n++) {
            int count = n;
            CHECKS.throwsArgument("25: too long for " + n, x, () -> x.runScript(count, tooLong[count - 1]));
            CHECKS.throwsArgument("25: negative for " + n, x, () -> x.runScript(count, -1L));
            CHECKS.throwsArgument("25: the greatest long for " + n, x, () -> x.runScript(count, Long.MAX_VALUE));
            CHECKS.throwsArgument("25: the least long for " + n, x, () -> x.runScript(count, Long.MIN_VALUE));
        }
    }

    private static void promise25OnACopy() {
        FencedRows x = meadow();
        x.away(1, true);
        Object before = Checks.seen(x);
        x.runScript(3, 100012030130004L);
        x.runScript(3, 100014000050000L);
        CHECKS.same("25: changes nothing", Checks.seen(x), before);
        CHECKS.is("25: is not remembered", x.undo(), 2);
    }

    /** The seed that leads to this x in the first turn. */
    private static long seedFor(long x) {
        long factor = 6364136223846793005L;
        long inverse = factor;
        for (int i = 0; i < 6; i++) {
            inverse *= 2 - factor * inverse;
        }
        return (x - 1442695040888963407L) * inverse;
    }

    /** A turn chosen by its kind and its q, and behind it one that searches. */
    private static void turn(int kind, int q) {
        for (long low = 0; low < 2000; low++) {
            long first = ((long) (8 * q + kind) << 33) + low * 4000037L;
            long second = first * 6364136223846793005L + 1442695040888963407L;
            int r = (int) (second >>> 33);
            if (r % 8 >= 6) {
                FencedRows x = before26();
                FencedRows byHand = before26();
                int looks = byHand(byHand, kind, q) + byHand(byHand, r % 8, r / 8);
                int due = 1000 * looks + 10 * byHand.about(6) + Math.min(9, byHand.about(7));
                CHECKS.is("26: kind " + kind + ", q " + q, x.simulate(seedFor(first), 2), due);
                return;
            }
        }
        CHECKS.yes("26: there is a seed", false);
    }

    private static FencedRows before26() {
        FencedRows x = new FencedRows();
        x.spread(5);
        x.lie(1, -1);
        for (int r = 0; r < 48; r += 5) {
            x.away(r, true);
            x.weigh(r, 10 + r);
        }
        x.lie(4, 2);
        x.tell();
        x.away(9, true);
        x.seek(1);
        return x;
    }

    private static int byHand(FencedRows x, int kind, int q) {
        try {
            switch (kind) {
                case 0, 1 -> x.away(q % 48, q / 48 % 3 != 0);
                case 2 -> x.weigh(q % 48, 1 + q / 48 % 99);
                case 3 -> x.fence(1 + q % 47, q / 64 % 2 == 0);
                case 4 -> x.tell();
                case 5 -> {
                    if (q / 128 % 2 == 0) {
                        x.lie(q % 12, q / 16 % 5 - 2);
                    } else {
                        x.trust(q % 2);
                    }
                }
                default -> {
                    return x.seek(q % 3);
                }
            }
        } catch (IndexOutOfBoundsException | IllegalArgumentException | IllegalStateException e) {
            return 0;
        }
        return 0;
    }

    private static void promise26EachTurn() {
        for (int kind = 0; kind < 8; kind++) {
            for (int q = 0; q < 1300; q += 7) {
                turn(kind, q);
            }
            for (int q = 268435455 - 150; q <= 268435455; q += 3) {
                turn(kind, q);
            }
        }
        FencedRows x = before26();
        CHECKS.is("26: no search, the latest one counts",
                x.simulate(seedFor(4L << 33), 1), 10 * x.about(6) + Math.min(9, x.about(7)));
        CHECKS.is("26: no search at all", new FencedRows().simulate(seedFor(4L << 33), 1), 0);
        FencedRows right = new FencedRows();
        for (int r = 0; r < 12; r++) {
            right.away(r, true);
        }
        right.trust(0);
        right.seek(0);
        CHECKS.is("26: twelve taken, none wrongly", right.simulate(seedFor(4L << 33), 1), 120);
        CHECKS.is("26: wrongly, but not more than 9", manyWrongly(), 480 + 9);
    }

    /** All 48 rows are taken, since all their weight is lacking, but they have come back. */
    private static int manyWrongly() {
        FencedRows x = new FencedRows();
        for (int r = 0; r < 48; r++) {
            x.away(r, true);
        }
        x.tell();
        for (int r = 0; r < 48; r++) {
            x.away(r, false);
        }
        x.seek(0);
        CHECKS.is("26: 48 were taken wrongly", x.about(7), 48);
        return x.simulate(seedFor(4L << 33), 1);
    }

    private static void promise26ManyTurns() {
        for (long seed : new long[] {0, 1, -1, 42, Long.MIN_VALUE, Long.MAX_VALUE, 123456789012345L}) {
            FencedRows x = before26();
            Object before = Checks.seen(x);
            for (int m : new int[] {1, 2, 17, 59, 60}) {
                FencedRows hand = before26();
                int looks = 0;
                long step = seed;
                for (int i = 0; i < m; i++) {
                    step = step * 6364136223846793005L + 1442695040888963407L;
                    int r = (int) (step >>> 33);
                    looks += byHand(hand, r % 8, r / 8);
                }
                int due = 1000 * looks + 10 * hand.about(6) + Math.min(9, hand.about(7));
                CHECKS.is("26: seed " + seed + ", m " + m, x.simulate(seed, m), due);
                CHECKS.is("26: the same again", x.simulate(seed, m), due);
            }
            CHECKS.same("26: changes nothing", Checks.seen(x), before);
            CHECKS.is("26: is not remembered", x.undo(), 13);
        }
    }

    private static void promise26Throws() {
        FencedRows x = before26();
        for (int m : new int[] {0, 61, -1, Integer.MIN_VALUE, Integer.MAX_VALUE}) {
            CHECKS.throwsArgument("26: m " + m, x, () -> x.simulate(1L, m));
        }
    }
}
