import java.util.List;

/** The Terms ahead of all sections, ROWS, FENCES and SETTINGS. */
public final class TermsTest {
    static final List<String> SECTIONS = List.of("Terms", "ROWS, FENCES", "SETTINGS");

    private static final Checks CHECKS = new Checks();
    private static final int LEAST = Integer.MIN_VALUE;
    private static final int GREATEST = Integer.MAX_VALUE;

    public static void main(String[] args) throws Exception {
        Sentences s = new Sentences(CHECKS, SECTIONS);
        s.in("Terms");
        s.holds("It tells how many looks a search would need, the most and the mean of all, the least that any halving"
                + " could need, whether a told sum can be true at all, which way to halve is best.",
                TermsTest::whatIsTold);
        s.holds("Changes can be undone.", TermsTest::changesAreUndone);
        s.holds("All divisions are rounded down.", TermsTest::divisions);
        s.in("ROWS, FENCES");
        s.holds("There are 48 rows, numbered from 0", TermsTest::rows);
        s.holds("each with a weight (1 to 99, at first 1)", TermsTest::weights);
        s.holds("there or away (at first all are there)", TermsTest::thereAtFirst);
        s.holds("and losses, at first 0.", TermsTest::lossesAtFirst);
        s.holds("A fence stands ahead of a row, 1 to 47", TermsTest::placesOfFences);
        s.holds("there are at most 11, at first none.", TermsTest::elevenFences);
        s.holds("Between fences, and the ends of all rows, are blocks, numbered from 0.", TermsTest::blocks);
        s.holds("The book of rows is their weights together", TermsTest::books);
        s.holds("the field of rows the weights of those that are there, together.", TermsTest::fields);
        s.holds("A block is told a sum, or none (at first).", TermsTest::toldOrNone);
        s.holds("When sums are told, each block is told its field and its lie, together (also if that is below 0).",
                TermsTest::fieldAndLie);
        s.holds("The lie of a block is -2 to 2, at first 0.", TermsTest::lies);
        s.holds("Whenever a fence comes or goes, no block is told a sum any more, and all lies are 0.",
                TermsTest::fenceComesOrGoes);
        s.in("SETTINGS");
        s.holds("0: whether told sums are trusted, 0 or 1, at first 1.", TermsTest::trusted);
        s.end();
    }

    private static void whatIsTold() {
        FencedRows x = Meadows.front(1, 1, 1, 9);
        x.away(3, true);
        x.tell();
        CHECKS.is("looks of a search", x.ifSought(0, 0), 2);
        CHECKS.is("the most", x.looks(0, 1, 0), 3);
        CHECKS.is("all together, for the mean", x.looks(0, 1, 1), 1 + 2 + 3 + 3);
        CHECKS.is("the least", x.leastLooks(0), 8);
        CHECKS.is("3 of 1, 1, 1 and 9", x.canBe(0), 1);
        CHECKS.is("the best way", x.bestWay(), 1);
    }

    private static void changesAreUndone() {
        FencedRows x = Meadows.lived();
        x.away(9, true);
        x.undo();
        CHECKS.same("behind undo", Checks.seen(x), Checks.seen(Meadows.lived()));
    }

    /** By turns, whose numbers are divided; the other call is what another rounding would bring. */
    private static void divisions() {
        Turns.same(CHECKS, "47 / 48 is 0", 0, 47, x -> x.away(47, false), x -> x.away(47, true));
        Turns.same(CHECKS, "143 / 48 is 2", 0, 143, x -> x.away(47, true), x -> x.away(47, false));
        Turns.same(CHECKS, "95 / 48 is 1", 2, 95, x -> x.weigh(47, 2), x -> x.weigh(47, 3));
        Turns.same(CHECKS, "127 / 64 is 1", 3, 127, x -> x.fence(34, false), x -> x.fence(34, true));
        Turns.same(CHECKS, "27 / 16 is 1", 5, 27, x -> x.lie(3, -1), x -> x.lie(3, 0));
        Turns.same(CHECKS, "254 / 128 is 1", 5, 254, x -> x.trust(0), x -> x.lie(2, -2));
        Turns.same(CHECKS, "7 / 8 is 0", 7, 0, x -> x.seek(0), x -> x.seek(1));
    }

    // ---- ROWS, FENCES

    private static void rows() {
        FencedRows x = new FencedRows();
        for (int r = 0; r <= 47; r++) {
            x.weigh(r, r + 1);
        }
        for (int r = 0; r <= 47; r++) {
            CHECKS.is("weight of row " + r, x.rowOf(r, 0), r + 1);
        }
        for (int r : new int[] {-1, 48, LEAST, GREATEST}) {
            CHECKS.throwsIndex("rowOf, row " + r, Meadows::lived, y -> y.rowOf(r, 0));
            CHECKS.throwsIndex("weigh, row " + r, Meadows::lived, y -> y.weigh(r, 1));
            CHECKS.throwsIndex("away, row " + r, Meadows::lived, y -> y.away(r, true));
        }
    }

    private static void weights() {
        FencedRows x = new FencedRows();
        for (int r = 0; r <= 47; r++) {
            CHECKS.is("the first weight of row " + r, x.rowOf(r, 0), 1);
        }
        for (int w = 1; w <= 99; w++) {
            x.weigh(7, w);
            CHECKS.is("weight " + w, x.rowOf(7, 0), w);
        }
        CHECKS.throwsArgument("weight 0", Meadows::lived, y -> y.weigh(7, 0));
        CHECKS.throwsArgument("weight 100", Meadows::lived, y -> y.weigh(7, 100));
    }

    private static void thereAtFirst() {
        FencedRows x = new FencedRows();
        for (int r = 0; r <= 47; r++) {
            CHECKS.is("row " + r + " away", x.rowOf(r, 1), 0);
        }
        CHECKS.is("rows away", x.about(1), 0);
        x.away(47, true);
        CHECKS.is("one that went away", x.rowOf(47, 1), 1);
    }

    private static void lossesAtFirst() {
        FencedRows x = new FencedRows();
        for (int r = 0; r <= 47; r++) {
            CHECKS.is("losses of row " + r, x.rowOf(r, 2), 0);
        }
        CHECKS.is("losses of all", x.about(10), 0);
    }

    private static void placesOfFences() {
        for (int r = 1; r <= 47; r++) {
            FencedRows x = new FencedRows();
            CHECKS.is("a fence ahead of " + r, x.fence(r, true), 2);
            CHECKS.is("the second block then", x.blockOf(1, 0), r);
            CHECKS.is("the row ahead of it", x.rowOf(r - 1, 3), 0);
            CHECKS.is("the row behind it", x.rowOf(r, 3), 1);
        }
        for (int r : new int[] {0, 48, -1, LEAST, GREATEST}) {
            CHECKS.throwsIndex("a fence ahead of " + r, Meadows::lived, x -> x.fence(r, true));
            CHECKS.throwsIndex("no fence ahead of " + r, Meadows::lived, x -> x.fence(r, false));
        }
    }

    private static void elevenFences() {
        FencedRows x = new FencedRows();
        CHECKS.is("blocks at first", x.about(0), 1);
        for (int i = 1; i <= 11; i++) {
            CHECKS.is("blocks with " + i, x.fence(4 * i, true), i + 1);
        }
        CHECKS.throwsState("the twelfth", Meadows::fullOfFences, y -> y.fence(12, true));
        CHECKS.throwsState("the twelfth, far behind", Meadows::fullOfFences, y -> y.fence(47, true));
    }

    private static void blocks() {
        FencedRows x = new FencedRows();
        CHECKS.is("without fences, the rows of block 0", x.blockOf(0, 1), 48);
        x.fence(1, true);
        x.fence(2, true);
        x.fence(47, true);
        int[] firsts = {0, 1, 2, 47};
        int[] counts = {1, 1, 45, 1};
        for (int k = 0; k < 4; k++) {
            CHECKS.is("first row of block " + k, x.blockOf(k, 0), firsts[k]);
            CHECKS.is("rows of block " + k, x.blockOf(k, 1), counts[k]);
        }
        CHECKS.throwsIndex("without fences, block 1", FencedRows::new, y -> y.blockOf(1, 0));
        CHECKS.throwsIndex("without fences, block -1", FencedRows::new, y -> y.blockOf(-1, 0));
        CHECKS.answers("with eleven fences, block 11", Meadows::fullOfFences, y -> y.blockOf(11, 0), 11);
        CHECKS.throwsIndex("with eleven fences, block 12", Meadows::fullOfFences, y -> y.blockOf(12, 0));
    }

    private static FencedRows heavy() {
        FencedRows x = new FencedRows();
        for (int r = 0; r < 48; r++) {
            x.weigh(r, 99);
        }
        x.fence(47, true);
        return x;
    }

    private static void books() {
        FencedRows x = new FencedRows();
        CHECKS.is("the least book of all", x.about(2), 48);
        FencedRows y = heavy();
        CHECKS.is("the greatest book of all", y.about(2), 48 * 99);
        CHECKS.is("the book of a block", y.blockOf(0, 2), 47 * 99);
        CHECKS.is("the book of one row", y.blockOf(1, 2), 99);
        y.away(47, true);
        CHECKS.is("rows that are away belong to it", y.blockOf(1, 2), 99);
        CHECKS.is("and to that of all", y.about(2), 48 * 99);
    }

    private static void fields() {
        FencedRows x = heavy();
        CHECKS.is("the field of all, all there", x.about(3), 48 * 99);
        for (int r = 0; r < 48; r++) {
            x.away(r, true);
        }
        CHECKS.is("the field of all, all away", x.about(3), 0);
        CHECKS.is("the field of a block, all away", x.blockOf(1, 3), 0);
        x.away(46, false);
        CHECKS.is("the field of all, one there", x.about(3), 99);
        CHECKS.is("the field of a block, one there", x.blockOf(0, 3), 99);
        CHECKS.is("the field of the other", x.blockOf(1, 3), 0);
    }

    private static void toldOrNone() {
        CHECKS.answers("at first", FencedRows::new, x -> x.about(4), 0);
        CHECKS.throwsState("the sum at first", FencedRows::new, x -> x.blockOf(0, 5));
        FencedRows x = new FencedRows();
        x.tell();
        CHECKS.is("told", x.about(4), 1);
        CHECKS.is("the sum", x.blockOf(0, 5), 48);
    }

    private static void fieldAndLie() {
        int[] due = {-2, -1, 0, 1, 2};
        for (int lie = -2; lie <= 2; lie++) {
            FencedRows x = Meadows.front(5, 7);
            x.lie(0, lie);
            x.tell();
            CHECKS.is("all there, lie " + lie, x.blockOf(0, 5), 12 + lie);
            CHECKS.is("the other block", x.blockOf(1, 5), 46);
            x.away(1, true);
            x.tell();
            CHECKS.is("one there, lie " + lie, x.blockOf(0, 5), 5 + lie);
            x.away(0, true);
            x.tell();
            CHECKS.is("none there, lie " + lie, x.blockOf(0, 5), due[lie + 2]);
        }
    }

    private static void lies() {
        FencedRows x = Meadows.fullOfFences();
        for (int k = 0; k < 12; k++) {
            CHECKS.is("the first lie of block " + k, x.blockOf(k, 4), 0);
        }
        for (int lie = -2; lie <= 2; lie++) {
            x.lie(11, lie);
            CHECKS.is("lie " + lie, x.blockOf(11, 4), lie);
        }
        CHECKS.throwsArgument("lie -3", Meadows::lived, y -> y.lie(0, -3));
        CHECKS.throwsArgument("lie 3", Meadows::lived, y -> y.lie(0, 3));
    }

    /** The fence at 24, and lies on both sides of it. */
    private static FencedRows lying() {
        FencedRows x = new FencedRows();
        x.fence(24, true);
        x.lie(0, 2);
        x.lie(1, -1);
        x.tell();
        return x;
    }

    private static void noSumsNoLies(String what, FencedRows x) {
        CHECKS.is("told, " + what, x.about(4), 0);
        for (int k = 0; k < x.about(0); k++) {
            CHECKS.is("lie of block " + k + ", " + what, x.blockOf(k, 4), 0);
        }
    }

    private static void fenceComesOrGoes() {
        FencedRows comes = lying();
        comes.fence(40, true);
        noSumsNoLies("one comes", comes);
        FencedRows goes = lying();
        goes.fence(24, false);
        noSumsNoLies("one goes", goes);
        goes.fence(24, true);
        noSumsNoLies("it comes again", goes);
        FencedRows spread = lying();
        spread.spread(2);
        noSumsNoLies("spread", spread);
        FencedRows same = lying();
        same.fence(24, true);
        same.fence(25, false);
        CHECKS.is("none comes or goes: told", same.about(4), 1);
        CHECKS.is("none comes or goes: lie 0", same.blockOf(0, 4), 2);
        CHECKS.is("none comes or goes: lie 1", same.blockOf(1, 4), -1);
        CHECKS.is("none comes or goes: sum 1", same.blockOf(1, 5), 23);
        FencedRows full = Meadows.fullOfFences();
        full.lie(11, 2);
        full.tell();
        CHECKS.throwsState("one that can't come", () -> {
            FencedRows x = Meadows.fullOfFences();
            x.lie(11, 2);
            x.tell();
            return x;
        }, x -> x.fence(30, true));
    }

    // ---- SETTINGS

    private static void trusted() {
        FencedRows x = new FencedRows();
        CHECKS.is("at first", x.about(9), 1);
        CHECKS.throwsState("trusted, a search without sums", FencedRows::new, y -> y.seek(0));
        x.trust(0);
        CHECKS.is("set to 0", x.about(9), 0);
        CHECKS.is("not trusted, a search without sums", x.seek(0), 1);
        x.trust(1);
        CHECKS.is("set to 1", x.about(9), 1);
        CHECKS.throwsArgument("2", Meadows::lived, y -> y.trust(2));
        CHECKS.throwsArgument("-1", Meadows::lived, y -> y.trust(-1));
    }
}
