import java.util.List;

/** Promises 1 and 6 to 8. */
public final class StateTest {
    static final List<String> SECTIONS = List.of("Promise 1", "Promise 6", "Promise 7", "Promise 8");

    private static final Checks CHECKS = new Checks();
    private static final int LEAST = Integer.MIN_VALUE;
    private static final int GREATEST = Integer.MAX_VALUE;

    public static void main(String[] args) throws Exception {
        Sentences s = new Sentences(CHECKS, SECTIONS);
        s.in("Promise 1");
        s.holds("Creates a meadow without fences; all rows are there.", StateTest::promise1New);
        promise6(s);
        promise7(s);
        promise8(s);
        s.end();
    }

    private static void promise6(Sentences s) {
        s.in("Promise 6");
        s.holds("Returns a number. what: 0: the blocks", StateTest::promise6Blocks);
        s.holds("1: the rows that are away", StateTest::promise6Away);
        s.holds("2: the book of all rows", StateTest::promise6Book);
        s.holds("3: the field of all rows", StateTest::promise6Field);
        s.holds("4: 1 if sums are told, otherwise 0", StateTest::promise6Told);
        s.holds("5: the looks of all searches so far that were actions", StateTest::promise6Looks);
        s.holds("6: the rows that were taken for away in the latest of them, how many, 0 ahead of the first one",
                StateTest::promise6Taken);
        s.holds("7: those of them that were not away", StateTest::promise6Wrong);
        s.holds("8: the rows that were away and not taken for that in the latest of them, 0 ahead of the first one",
                StateTest::promise6Missed);
        s.holds("(7 and 8 by who was away at that search)", StateTest::promise6AtThatSearch);
        s.holds("9: setting 0", StateTest::promise6Setting);
        s.holds("10: the losses of all rows Returns that number.", StateTest::promise6Losses);
        s.holds("Throws IllegalArgumentException if what is not 0 to 10", StateTest::promise6Throws);
    }

    private static void promise7(Sentences s) {
        s.in("Promise 7");
        s.holds("Returns a number of a row. r: row", StateTest::promise7Rows);
        s.holds("what: 0: its weight", StateTest::promise7Weight);
        s.holds("1: 1 if it is away, otherwise 0", StateTest::promise7Away);
        s.holds("2: its losses", StateTest::promise7Losses);
        s.holds("3: its block", StateTest::promise7Block);
        s.holds("4: 1 if it was taken for away in the latest search that was an action, otherwise 0"
                + " Returns that number.", StateTest::promise7Taken);
        s.holds("Throws IndexOutOfBoundsException if there is no such row", StateTest::promise7NoRow);
        s.holds("Throws IllegalArgumentException if what is not 0 to 4", StateTest::promise7NoNumber);
    }

    private static void promise8(Sentences s) {
        s.in("Promise 8");
        s.holds("Returns a number of a block. k: block", StateTest::promise8Blocks);
        s.holds("what: 0: its first row", StateTest::promise8FirstRow);
        s.holds("1: its rows, how many", StateTest::promise8Rows);
        s.holds("2: its book", StateTest::promise8Book);
        s.holds("3: its field", StateTest::promise8Field);
        s.holds("4: its lie", StateTest::promise8Lie);
        s.holds("5: the sum that it is told Returns that number.", StateTest::promise8Sum);
        s.holds("Throws IndexOutOfBoundsException if there is no such block", StateTest::promise8NoBlock);
        s.holds("Throws IllegalArgumentException if what is not 0 to 5", StateTest::promise8NoNumber);
        s.holds("Throws IllegalStateException if what is 5 and no sums are told", StateTest::promise8NoSums);
    }

    private static void promise1New() {
        FencedRows x = new FencedRows();
        int[] due = {1, 0, 48, 48, 0, 0, 0, 0, 0, 1, 0};
        for (int what = 0; what < due.length; what++) {
            CHECKS.is("about(" + what + ")", x.about(what), due[what]);
        }
        for (int r = 0; r < 48; r++) {
            CHECKS.is("weight of " + r, x.rowOf(r, 0), 1);
            for (int what = 1; what <= 4; what++) {
                CHECKS.is("rowOf(" + r + ", " + what + ")", x.rowOf(r, what), 0);
            }
        }
        int[] block = {0, 48, 48, 48, 0};
        for (int what = 0; what < block.length; what++) {
            CHECKS.is("blockOf(0, " + what + ")", x.blockOf(0, what), block[what]);
        }
        CHECKS.throwsState("nothing to undo", FencedRows::new, FencedRows::undo);
        CHECKS.throwsState("slot 0 is empty", FencedRows::new, y -> y.restore(0));
        CHECKS.throwsState("slot 1 is empty", FencedRows::new, y -> y.restore(1));
        CHECKS.answers("the text is empty", FencedRows::new, FencedRows::clearText, 0);
        FencedRows other = new FencedRows();
        other.away(0, true);
        CHECKS.is("objects share nothing", x.about(1), 0);
    }

    // ---- promise 6

    private static void promise6Blocks() {
        CHECKS.answers("no fence", FencedRows::new, x -> x.about(0), 1);
        CHECKS.answers("one fence", () -> Meadows.front(1), x -> x.about(0), 2);
        CHECKS.answers("eleven fences", Meadows::fullOfFences, x -> x.about(0), 12);
    }

    private static void promise6Away() {
        CHECKS.answers("none", FencedRows::new, x -> x.about(1), 0);
        CHECKS.answers("all", Meadows::allAway, x -> x.about(1), 48);
        FencedRows x = Meadows.allAway();
        x.away(0, false);
        x.away(47, false);
        CHECKS.is("all but two", x.about(1), 46);
    }

    private static void promise6Book() {
        CHECKS.answers("all away", Meadows::allAway, x -> x.about(2), 48);
        FencedRows x = Meadows.front(99, 2);
        x.weigh(47, 50);
        CHECKS.is("the ends are heavy", x.about(2), 48 + 98 + 1 + 49);
    }

    private static void promise6Field() {
        CHECKS.answers("all away", Meadows::allAway, x -> x.about(3), 0);
        FencedRows x = Meadows.front(99, 2);
        x.weigh(47, 50);
        CHECKS.is("all there", x.about(3), 48 + 98 + 1 + 49);
        x.away(0, true);
        CHECKS.is("without the first", x.about(3), 47 + 1 + 49);
        x.away(47, true);
        CHECKS.is("without the last", x.about(3), 46 + 1);
    }

    private static void promise6Told() {
        FencedRows x = new FencedRows();
        CHECKS.is("at first", x.about(4), 0);
        x.tell();
        CHECKS.is("told", x.about(4), 1);
        x.weigh(0, 2);
        x.away(1, true);
        x.lie(0, 1);
        x.trust(0);
        x.seek(0);
        CHECKS.is("out of date", x.about(4), 1);
        x.fence(1, true);
        CHECKS.is("behind a fence", x.about(4), 0);
    }

    /** Row 1 of four is away and told, by two looks. */
    private static FencedRows searched() {
        FencedRows x = Meadows.front(1, 1, 1, 1);
        x.away(1, true);
        x.tell();
        x.seek(0);
        return x;
    }

    private static void promise6Looks() {
        CHECKS.answers("none so far", FencedRows::new, x -> x.about(5), 0);
        CHECKS.answers("one search", StateTest::searched, x -> x.about(5), 2);
        FencedRows x = searched();
        x.ifSought(0, 0);
        x.bestWay();
        x.runScript(1, 50000L);
        x.simulate(7, 60);
        CHECKS.is("what is no action does not count", x.about(5), 2);
        x.seek(1);
        CHECKS.is("two searches", x.about(5), 4);
        x.undo();
        CHECKS.is("one of them undone", x.about(5), 2);
    }

    private static void promise6Taken() {
        CHECKS.answers("ahead of the first one", Meadows::allAway, x -> x.about(6), 0);
        CHECKS.answers("one", StateTest::searched, x -> x.about(6), 1);
        FencedRows x = Meadows.allAway();
        x.tell();
        x.seek(0);
        CHECKS.is("all", x.about(6), 48);
        x.away(0, false);
        x.ifSought(0, 0);
        CHECKS.is("the latest still", x.about(6), 48);
        x.tell();
        x.seek(0);
        CHECKS.is("in the latest alone", x.about(6), 47);
    }

    /** Of the first four rows one is taken wrongly by a lie; a row behind them went away since the telling. */
    private static FencedRows mistaken() {
        FencedRows x = Meadows.front(1, 1, 1, 1);
        x.lie(0, -1);
        x.tell();
        x.away(20, true);
        x.seek(0);
        return x;
    }

    private static void promise6Wrong() {
        CHECKS.answers("ahead of the first one", Meadows::allAway, x -> x.about(7), 0);
        CHECKS.answers("none", StateTest::searched, x -> x.about(7), 0);
        CHECKS.answers("one", StateTest::mistaken, x -> x.about(7), 1);
        FencedRows x = Meadows.allAway();
        x.tell();
        for (int r = 0; r < 48; r++) {
            x.away(r, false);
        }
        x.seek(0);
        CHECKS.is("all", x.about(7), 48);
    }

    private static void promise6Missed() {
        CHECKS.answers("ahead of the first one", Meadows::allAway, x -> x.about(8), 0);
        CHECKS.answers("none", StateTest::searched, x -> x.about(8), 0);
        CHECKS.answers("one", StateTest::mistaken, x -> x.about(8), 1);
        FencedRows x = new FencedRows();
        x.tell();
        for (int r = 0; r < 48; r++) {
            x.away(r, true);
        }
        x.seek(0);
        CHECKS.is("all", x.about(8), 48);
    }

    private static void promise6AtThatSearch() {
        FencedRows x = mistaken();
        x.away(3, true);
        x.away(20, false);
        x.away(21, true);
        x.away(22, true);
        CHECKS.is("7 stays", x.about(7), 1);
        CHECKS.is("8 stays", x.about(8), 1);
        x.lie(0, 0);
        x.tell();
        x.seek(0);
        CHECKS.is("7 of the next search", x.about(7), 0);
        CHECKS.is("8 of the next search", x.about(8), 0);
    }

    private static void promise6Setting() {
        FencedRows x = new FencedRows();
        CHECKS.is("at first", x.about(9), 1);
        x.trust(0);
        CHECKS.is("set to 0", x.about(9), 0);
        x.trust(1);
        CHECKS.is("set to 1", x.about(9), 1);
    }

    private static void promise6Losses() {
        CHECKS.answers("none so far", Meadows::allAway, x -> x.about(10), 0);
        CHECKS.answers("one", StateTest::mistaken, x -> x.about(10), 1);
        FencedRows x = Meadows.allAway();
        x.trust(0);
        for (int i = 1; i <= 100; i++) {
            x.seek(0);
            CHECKS.is("of all rows, times " + i, x.about(10), 48 * Math.min(99, i));
        }
    }

    private static void promise6Throws() {
        for (int what = 0; what <= 10; what++) {
            int w = what;
            CHECKS.throwsNothing("about(" + what + ")", Meadows::lived, x -> x.about(w));
        }
        for (int wrong : new int[] {-1, 11, LEAST, GREATEST}) {
            CHECKS.throwsArgument("about(" + wrong + ")", Meadows::lived, x -> x.about(wrong));
        }
    }

    // ---- promise 7

    private static void promise7Rows() {
        FencedRows x = new FencedRows();
        for (int r = 0; r < 48; r++) {
            x.weigh(r, 99 - r);
        }
        for (int r = 0; r < 48; r++) {
            CHECKS.is("row " + r, x.rowOf(r, 0), 99 - r);
        }
    }

    private static void promise7Weight() {
        FencedRows x = new FencedRows();
        CHECKS.is("at first", x.rowOf(0, 0), 1);
        x.weigh(0, 99);
        CHECKS.is("the greatest", x.rowOf(0, 0), 99);
        CHECKS.is("another row", x.rowOf(1, 0), 1);
        x.away(0, true);
        CHECKS.is("away", x.rowOf(0, 0), 99);
    }

    private static void promise7Away() {
        FencedRows x = new FencedRows();
        x.away(0, true);
        x.away(47, true);
        CHECKS.is("the first", x.rowOf(0, 1), 1);
        CHECKS.is("its neighbour", x.rowOf(1, 1), 0);
        CHECKS.is("the last", x.rowOf(47, 1), 1);
        CHECKS.is("its neighbour", x.rowOf(46, 1), 0);
        x.away(47, false);
        CHECKS.is("come back", x.rowOf(47, 1), 0);
    }

    private static void promise7Losses() {
        FencedRows x = searched();
        CHECKS.is("taken once", x.rowOf(1, 2), 1);
        CHECKS.is("not taken", x.rowOf(0, 2), 0);
        x.seek(0);
        CHECKS.is("taken twice", x.rowOf(1, 2), 2);
        x.away(1, false);
        x.tell();
        x.seek(0);
        CHECKS.is("they stay", x.rowOf(1, 2), 2);
    }

    private static void promise7Block() {
        CHECKS.answers("the last row without fences", FencedRows::new, x -> x.rowOf(47, 3), 0);
        FencedRows x = new FencedRows();
        x.fence(1, true);
        x.fence(47, true);
        x.fence(4, true);
        int[] rows = {0, 1, 3, 4, 46, 47};
        int[] blocks = {0, 1, 1, 2, 2, 3};
        for (int i = 0; i < rows.length; i++) {
            CHECKS.is("row " + rows[i], x.rowOf(rows[i], 3), blocks[i]);
        }
        CHECKS.answers("the last row with eleven fences", Meadows::fullOfFences, y -> y.rowOf(47, 3), 11);
    }

    private static void promise7Taken() {
        CHECKS.answers("ahead of the first search", Meadows::allAway, x -> x.rowOf(0, 4), 0);
        CHECKS.answers("taken", StateTest::searched, x -> x.rowOf(1, 4), 1);
        CHECKS.answers("not taken", StateTest::searched, x -> x.rowOf(0, 4), 0);
        CHECKS.answers("taken wrongly", StateTest::mistaken, x -> x.rowOf(3, 4), 1);
        CHECKS.answers("missed", StateTest::mistaken, x -> x.rowOf(20, 4), 0);
        FencedRows x = Meadows.allAway();
        x.tell();
        x.seek(0);
        CHECKS.is("the first row", x.rowOf(0, 4), 1);
        CHECKS.is("the last row", x.rowOf(47, 4), 1);
        x.away(0, false);
        x.tell();
        x.ifSought(0, 0);
        CHECKS.is("what is no action changes none", x.rowOf(0, 4), 1);
        x.seek(0);
        CHECKS.is("in the latest alone", x.rowOf(0, 4), 0);
    }

    private static void promise7NoRow() {
        for (int wrong : new int[] {-1, 48, LEAST, GREATEST}) {
            for (int what = 0; what <= 4; what++) {
                int w = what;
                CHECKS.throwsIndex("rowOf(" + wrong + ", " + what + ")", Meadows::lived, x -> x.rowOf(wrong, w));
            }
            CHECKS.throwsIndex("rowOf(" + wrong + ", 5)", Meadows::lived, x -> x.rowOf(wrong, 5));
            CHECKS.throwsIndex("rowOf(" + wrong + ", -1)", Meadows::lived, x -> x.rowOf(wrong, -1));
        }
    }

    private static void promise7NoNumber() {
        for (int wrong : new int[] {-1, 5, LEAST, GREATEST}) {
            CHECKS.throwsArgument("rowOf(0, " + wrong + ")", Meadows::lived, x -> x.rowOf(0, wrong));
            CHECKS.throwsArgument("rowOf(47, " + wrong + ")", Meadows::lived, x -> x.rowOf(47, wrong));
        }
    }

    // ---- promise 8

    /** Blocks of the rows 0 to 3, 4 to 45, and 46 to 47. */
    private static FencedRows threeBlocks() {
        FencedRows x = Meadows.front(1, 1, 1, 2);
        x.fence(46, true);
        x.away(3, true);
        x.lie(0, -2);
        x.lie(2, 2);
        return x;
    }

    private static void ofBlocks(int what, int... due) {
        FencedRows x = threeBlocks();
        for (int k = 0; k < due.length; k++) {
            CHECKS.is("blockOf(" + k + ", " + what + ")", x.blockOf(k, what), due[k]);
        }
    }

    private static void promise8Blocks() {
        FencedRows x = Meadows.fullOfFences();
        for (int k = 0; k <= 11; k++) {
            CHECKS.is("block " + k, x.blockOf(k, 0), k);
        }
    }

    private static void promise8FirstRow() {
        ofBlocks(0, 0, 4, 46);
        CHECKS.answers("the only block", FencedRows::new, x -> x.blockOf(0, 0), 0);
    }

    private static void promise8Rows() {
        ofBlocks(1, 4, 42, 2);
        CHECKS.answers("the only block", FencedRows::new, x -> x.blockOf(0, 1), 48);
        CHECKS.answers("one row", Meadows::fullOfFences, x -> x.blockOf(10, 1), 1);
        CHECKS.answers("the last block", Meadows::fullOfFences, x -> x.blockOf(11, 1), 37);
    }

    private static void promise8Book() {
        ofBlocks(2, 5, 42, 2);
    }

    private static void promise8Field() {
        ofBlocks(3, 3, 42, 2);
        CHECKS.answers("all away", Meadows::allAway, x -> x.blockOf(0, 3), 0);
    }

    private static void promise8Lie() {
        ofBlocks(4, -2, 0, 2);
    }

    private static void promise8Sum() {
        FencedRows x = threeBlocks();
        x.tell();
        CHECKS.is("with a lie below 0", x.blockOf(0, 5), 1);
        CHECKS.is("without a lie", x.blockOf(1, 5), 42);
        CHECKS.is("with a lie above 0", x.blockOf(2, 5), 4);
        x.away(0, true);
        x.weigh(1, 7);
        x.lie(0, 0);
        CHECKS.is("it stays as it was told", x.blockOf(0, 5), 1);
        x.away(1, true);
        x.away(2, true);
        x.lie(0, -2);
        x.tell();
        CHECKS.is("below 0", x.blockOf(0, 5), -2);
    }

    private static void promise8NoBlock() {
        for (int wrong : new int[] {-1, 3, 11, 12, LEAST, GREATEST}) {
            for (int what = 0; what <= 5; what++) {
                int w = what;
                CHECKS.throwsIndex("blockOf(" + wrong + ", " + what + ")", StateTest::threeBlocks,
                        x -> x.blockOf(wrong, w));
            }
            CHECKS.throwsIndex("blockOf(" + wrong + ", 6)", StateTest::threeBlocks, x -> x.blockOf(wrong, 6));
        }
        CHECKS.throwsIndex("block 1 of one", FencedRows::new, x -> x.blockOf(1, 0));
        CHECKS.throwsIndex("block 12 of twelve", Meadows::fullOfFences, x -> x.blockOf(12, 0));
    }

    private static void promise8NoNumber() {
        for (int wrong : new int[] {-1, 6, LEAST, GREATEST}) {
            CHECKS.throwsArgument("blockOf(2, " + wrong + ")", StateTest::threeBlocks, x -> x.blockOf(2, wrong));
        }
    }

    private static void promise8NoSums() {
        CHECKS.throwsState("none yet", StateTest::threeBlocks, x -> x.blockOf(1, 5));
        FencedRows x = threeBlocks();
        x.tell();
        CHECKS.is("told", x.blockOf(1, 5), 42);
        x.fence(5, true);
        CHECKS.same("none any more", Checks.thrown(x, y -> y.blockOf(1, 5)), IllegalStateException.class.getName());
        for (int what = 0; what <= 4; what++) {
            int w = what;
            CHECKS.throwsNothing("blockOf(1, " + what + ")", StateTest::threeBlocks, y -> y.blockOf(1, w));
        }
    }
}
