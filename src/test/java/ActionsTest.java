import java.util.List;

/** Promises 9 to 16. */
public final class ActionsTest {
    static final List<String> SECTIONS = List.of("Promise 9", "Promise 10", "Promise 11", "Promise 12", "Promise 13",
            "Promise 14", "Promise 15", "Promise 16");

    private static final Checks CHECKS = new Checks();
    private static final int LEAST = Integer.MIN_VALUE;
    private static final int GREATEST = Integer.MAX_VALUE;
    private static final int[] NO_ROWS = {-1, 48, 100, LEAST, GREATEST};

    public static void main(String[] args) throws Exception {
        Sentences s = new Sentences(CHECKS, SECTIONS);
        promises9And10(s);
        promises11And12(s);
        promises13And14(s);
        promises15And16(s);
        s.end();
    }

    private static void promises9And10(Sentences s) {
        s.in("Promise 9");
        s.holds("Changes the weight of a row. r: row", ActionsTest::promise9Changes);
        s.holds("w: 1 to 99", ActionsTest::promise9Weights);
        s.holds("Returns the previous one.", ActionsTest::promise9Previous);
        s.holds("Throws IndexOutOfBoundsException if there is no such row", ActionsTest::promise9NoRow);
        s.holds("Throws IllegalArgumentException if w is out of range", ActionsTest::promise9NoWeight);
        s.in("Promise 10");
        s.holds("Lets a row go away, or come back. r: row away: whether it is away then", ActionsTest::promise10Goes);
        s.holds("Returns the rows that are away then, how many.", ActionsTest::promise10HowMany);
        s.holds("Throws IndexOutOfBoundsException if there is no such row", ActionsTest::promise10NoRow);
    }

    private static void promises11And12(Sentences s) {
        s.in("Promise 11");
        s.holds("Puts a fence ahead of a row, or takes it away.", ActionsTest::promise11Puts);
        s.holds("r: row, 1 to 47", ActionsTest::promise11Places);
        s.holds("put: whether there is a fence then", ActionsTest::promise11Then);
        s.holds("Returns the blocks then.", ActionsTest::promise11Blocks);
        s.holds("Throws IndexOutOfBoundsException if there is no such place of a fence", ActionsTest::promise11NoPlace);
        s.holds("Throws IllegalStateException if one more would be put, and there are 11", ActionsTest::promise11Full);
        s.in("Promise 12");
        s.holds("Takes all fences away, and puts others", ActionsTest::promise12Others);
        s.holds("with g as what balanced(n) tells, from the first row on, each block gets as many rows as its book is"
                + " at most g.", ActionsTest::promise12AsManyRows);
        s.holds("(These are n fences or fewer.", ActionsTest::promise12OrFewer);
        s.holds("No sums are told then, and all lies are 0, also if the fences are as they were.)",
                ActionsTest::promise12NoSums);
        s.holds("n: 1 to 11", ActionsTest::promise12Counts);
        s.holds("Returns the blocks then.", ActionsTest::promise12Blocks);
        s.holds("Throws IllegalArgumentException if n is out of range", ActionsTest::promise12Throws);
    }

    private static void promises13And14(Sentences s) {
        s.in("Promise 13");
        s.holds("Changes the lie of a block. (A sum that it is told stays as it was told.)",
                ActionsTest::promise13Changes);
        s.holds("k: block", ActionsTest::promise13Blocks);
        s.holds("v: -2 to 2", ActionsTest::promise13Lies);
        s.holds("Returns the previous one.", ActionsTest::promise13Previous);
        s.holds("Throws IndexOutOfBoundsException if there is no such block", ActionsTest::promise13NoBlock);
        s.holds("Throws IllegalArgumentException if v is out of range", ActionsTest::promise13NoLie);
        s.in("Promise 14");
        s.holds("Tells sums of all blocks.", ActionsTest::promise14Tells);
        s.holds("Returns the sums together.", ActionsTest::promise14Together);
    }

    private static void promises15And16(Sentences s) {
        s.in("Promise 15");
        s.holds("Searches. way: 0 to 2", ActionsTest::promise15Searches);
        s.holds("Returns the looks.", ActionsTest::promise15Looks);
        s.holds("Throws IllegalArgumentException if way is out of range", ActionsTest::promise15NoWay);
        s.holds("Throws IllegalStateException if setting 0 is 1 and no sums are told", ActionsTest::promise15NoSums);
        s.in("Promise 16");
        s.holds("Changes setting 0.", ActionsTest::promise16Changes);
        s.holds("v: 0 or 1", ActionsTest::promise16Values);
        s.holds("Returns the previous one.", ActionsTest::promise16Previous);
        s.holds("Throws IllegalArgumentException if v is neither 0 nor 1", ActionsTest::promise16Throws);
    }

    // ---- promises 9 and 10

    private static void promise9Changes() {
        FencedRows x = Meadows.lived();
        x.weigh(0, 44);
        x.weigh(47, 55);
        CHECKS.is("the first row", x.rowOf(0, 0), 44);
        CHECKS.is("the last row", x.rowOf(47, 0), 55);
        CHECKS.is("the others", x.about(2), Meadows.lived().about(2) + 43 + 54);
        FencedRows told = Meadows.front(1, 1);
        told.tell();
        told.weigh(0, 9);
        CHECKS.is("a told sum stays", told.blockOf(0, 5), 2);
    }

    private static void promise9Weights() {
        FencedRows x = new FencedRows();
        for (int w : new int[] {1, 2, 98, 99, 1}) {
            x.weigh(20, w);
            CHECKS.is("weight " + w, x.rowOf(20, 0), w);
        }
    }

    private static void promise9Previous() {
        FencedRows x = new FencedRows();
        CHECKS.is("the first", x.weigh(5, 99), 1);
        CHECKS.is("the second", x.weigh(5, 1), 99);
        CHECKS.is("the third", x.weigh(5, 1), 1);
        CHECKS.is("of another row", x.weigh(6, 7), 1);
        CHECKS.is("as it was", x.weigh(6, 7), 7);
    }

    private static void promise9NoRow() {
        for (int r : NO_ROWS) {
            CHECKS.throwsIndex("row " + r, Meadows::lived, x -> x.weigh(r, 1));
            CHECKS.throwsIndex("row " + r + ", and weight 0", Meadows::lived, x -> x.weigh(r, 0));
            CHECKS.throwsIndex("row " + r + ", and weight 100", Meadows::lived, x -> x.weigh(r, 100));
        }
    }

    private static void promise9NoWeight() {
        for (int w : new int[] {0, 100, -1, LEAST, GREATEST}) {
            CHECKS.throwsArgument("weight " + w, Meadows::lived, x -> x.weigh(0, w));
            CHECKS.throwsArgument("weight " + w + " of the last row", Meadows::lived, x -> x.weigh(47, w));
        }
    }

    private static void promise10Goes() {
        FencedRows x = new FencedRows();
        x.away(0, true);
        x.away(47, true);
        x.away(20, true);
        x.away(20, true);
        CHECKS.is("the first", x.rowOf(0, 1), 1);
        CHECKS.is("the last", x.rowOf(47, 1), 1);
        CHECKS.is("twice", x.rowOf(20, 1), 1);
        x.away(20, false);
        x.away(0, false);
        x.away(0, false);
        CHECKS.is("back", x.rowOf(20, 1), 0);
        CHECKS.is("back twice", x.rowOf(0, 1), 0);
        CHECKS.is("the last still", x.rowOf(47, 1), 1);
        CHECKS.is("their field", x.about(3), 47);
    }

    private static void promise10HowMany() {
        FencedRows x = new FencedRows();
        CHECKS.is("one that is there comes back", x.away(0, false), 0);
        for (int r = 0; r < 48; r++) {
            CHECKS.is("row " + r, x.away(r, true), r + 1);
        }
        CHECKS.is("one that is away goes away", x.away(47, true), 48);
        for (int r = 47; r >= 0; r--) {
            CHECKS.is("row " + r + " back", x.away(r, false), r);
        }
    }

    private static void promise10NoRow() {
        for (int r : NO_ROWS) {
            CHECKS.throwsIndex("row " + r, Meadows::lived, x -> x.away(r, true));
            CHECKS.throwsIndex("row " + r + " back", Meadows::lived, x -> x.away(r, false));
        }
    }

    // ---- promises 11 and 12

    private static void promise11Puts() {
        FencedRows x = new FencedRows();
        x.fence(20, true);
        x.fence(10, true);
        CHECKS.is("the second block", x.blockOf(1, 0), 10);
        CHECKS.is("the third block", x.blockOf(2, 0), 20);
        x.fence(10, false);
        CHECKS.is("the second block then", x.blockOf(1, 0), 20);
    }

    private static void promise11Places() {
        FencedRows x = new FencedRows();
        x.fence(1, true);
        x.fence(47, true);
        CHECKS.is("ahead of 1", x.blockOf(1, 0), 1);
        CHECKS.is("ahead of 47", x.blockOf(2, 0), 47);
        x.fence(47, false);
        x.fence(1, false);
        CHECKS.is("both taken", x.blockOf(0, 1), 48);
    }

    private static void promise11Then() {
        FencedRows x = Meadows.front(1, 1);
        x.fence(2, true);
        CHECKS.is("put where one stands", x.about(0), 2);
        x.fence(3, false);
        CHECKS.is("taken where none stands", x.about(0), 2);
        CHECKS.is("it stands still", x.blockOf(1, 0), 2);
        x.fence(2, false);
        x.fence(2, false);
        CHECKS.is("taken twice", x.about(0), 1);
    }

    private static void promise11Blocks() {
        FencedRows x = new FencedRows();
        CHECKS.is("none to take", x.fence(1, false), 1);
        for (int i = 1; i <= 11; i++) {
            CHECKS.is("put " + i, x.fence(4 * i, true), i + 1);
        }
        CHECKS.is("put again", x.fence(44, true), 12);
        CHECKS.is("none to take of eleven", x.fence(1, false), 12);
        CHECKS.is("taken", x.fence(44, false), 11);
    }

    private static void promise11NoPlace() {
        for (int r : new int[] {0, 48, -1, LEAST, GREATEST}) {
            CHECKS.throwsIndex("put at " + r, Meadows::lived, x -> x.fence(r, true));
            CHECKS.throwsIndex("taken at " + r, Meadows::lived, x -> x.fence(r, false));
            CHECKS.throwsIndex("put at " + r + ", and there are 11", Meadows::fullOfFences, x -> x.fence(r, true));
        }
    }

    private static void promise11Full() {
        for (int r : new int[] {12, 13, 30, 47}) {
            CHECKS.throwsState("the twelfth at " + r, Meadows::fullOfFences, x -> x.fence(r, true));
            CHECKS.answers("none at " + r + " to take", Meadows::fullOfFences, x -> x.fence(r, false), 12);
        }
        for (int r = 1; r <= 11; r++) {
            int at = r;
            CHECKS.answers("put again at " + r, Meadows::fullOfFences, x -> x.fence(at, true), 12);
            CHECKS.answers("taken at " + r, Meadows::fullOfFences, x -> x.fence(at, false), 11);
        }
        FencedRows x = Meadows.fullOfFences();
        x.fence(5, false);
        CHECKS.is("the eleventh again", x.fence(30, true), 12);
        FencedRows spread = new FencedRows();
        spread.spread(11);
        CHECKS.same("eleven by spread", Checks.thrown(spread, y -> y.fence(1, true)),
                IllegalStateException.class.getName());
    }

    private static void promise12Others() {
        FencedRows x = new FencedRows();
        x.fence(5, true);
        x.fence(6, true);
        x.spread(1);
        CHECKS.is("just one fence", x.about(0), 2);
        CHECKS.is("it stands in the middle", x.blockOf(1, 0), 24);
        FencedRows full = Meadows.fullOfFences();
        full.spread(11);
        for (int k = 0; k < 12; k++) {
            CHECKS.is("others of eleven, block " + k, full.blockOf(k, 0), 4 * k);
        }
    }

    private static void promise12AsManyRows() {
        FencedRows x = new FencedRows();
        x.spread(4);
        int[] due = {0, 10, 20, 30, 40};
        for (int k = 0; k < due.length; k++) {
            CHECKS.is("five blocks of 10 or fewer rows, block " + k, x.blockOf(k, 0), due[k]);
        }
        FencedRows back = new FencedRows();
        back.weigh(47, 99);
        back.spread(1);
        CHECKS.is("a heavy row at the end stands alone", back.blockOf(1, 0), 47);
        FencedRows front = new FencedRows();
        front.weigh(0, 99);
        front.spread(1);
        CHECKS.is("a heavy row in front stands alone", front.blockOf(1, 0), 1);
        FencedRows away = new FencedRows();
        for (int r = 0; r < 24; r++) {
            away.away(r, true);
        }
        away.spread(1);
        CHECKS.is("rows that are away weigh, too", away.blockOf(1, 0), 24);
    }

    private static void promise12OrFewer() {
        FencedRows heavy = new FencedRows();
        heavy.weigh(47, 99);
        CHECKS.is("one of eleven is enough", heavy.spread(11), 2);
        CHECKS.answers("nine of ten are enough", FencedRows::new, x -> x.spread(10), 10);
        CHECKS.answers("all eleven are needed", FencedRows::new, x -> x.spread(11), 12);
    }

    private static void promise12NoSums() {
        FencedRows x = new FencedRows();
        x.fence(24, true);
        x.lie(0, 2);
        x.lie(1, -1);
        x.tell();
        CHECKS.is("the fence is as it was", x.spread(1) + x.blockOf(1, 0), 2 + 24);
        CHECKS.is("no sums", x.about(4), 0);
        CHECKS.is("no lie of block 0", x.blockOf(0, 4), 0);
        CHECKS.is("no lie of block 1", x.blockOf(1, 4), 0);
        FencedRows y = new FencedRows();
        y.lie(0, 1);
        y.tell();
        y.spread(3);
        CHECKS.is("no sums of others", y.about(4), 0);
        CHECKS.is("no lie of others", y.blockOf(0, 4), 0);
    }

    private static void promise12Counts() {
        for (int n = 1; n <= 11; n++) {
            int most = (48 + n) / (n + 1);
            FencedRows x = new FencedRows();
            CHECKS.is("spread(" + n + ")", x.spread(n), (48 + most - 1) / most);
            CHECKS.is("the second block of " + n, x.blockOf(1, 0), most);
        }
    }

    private static void promise12Blocks() {
        FencedRows x = new FencedRows();
        CHECKS.is("one fence", x.spread(1), 2);
        CHECKS.is("again", x.spread(1), 2);
        CHECKS.is("eleven fences", x.spread(11), 12);
        CHECKS.is("fewer again", x.spread(2), 3);
        CHECKS.is("as about tells", x.about(0), 3);
    }

    private static void promise12Throws() {
        for (int n : new int[] {0, 12, -1, LEAST, GREATEST}) {
            CHECKS.throwsArgument("spread(" + n + ")", Meadows::lived, x -> x.spread(n));
        }
    }

    // ---- promises 13 and 14

    private static void promise13Changes() {
        FencedRows x = Meadows.front(1, 1);
        x.tell();
        x.lie(1, 2);
        CHECKS.is("the lie", x.blockOf(1, 4), 2);
        CHECKS.is("of the other block", x.blockOf(0, 4), 0);
        CHECKS.is("the sum as it was told", x.blockOf(1, 5), 46);
        x.tell();
        CHECKS.is("the sum that is told then", x.blockOf(1, 5), 48);
        x.lie(1, 0);
        CHECKS.is("the lie goes, the sum stays", x.blockOf(1, 5), 48);
        CHECKS.is("sums are told still", x.about(4), 1);
    }

    private static void promise13Blocks() {
        CHECKS.answers("the only one", FencedRows::new, x -> x.lie(0, 1) + 10 * x.blockOf(0, 4), 10);
        for (int k = 0; k <= 11; k++) {
            int block = k;
            CHECKS.answers("block " + k, Meadows::fullOfFences, x -> x.lie(block, 2) + 10 * x.blockOf(block, 4), 20);
        }
    }

    private static void promise13Lies() {
        FencedRows x = new FencedRows();
        for (int v = -2; v <= 2; v++) {
            x.lie(0, v);
            CHECKS.is("lie " + v, x.blockOf(0, 4), v);
        }
    }

    private static void promise13Previous() {
        FencedRows x = Meadows.front(1);
        CHECKS.is("the first", x.lie(0, -2), 0);
        CHECKS.is("the second", x.lie(0, 2), -2);
        CHECKS.is("the third", x.lie(0, 2), 2);
        CHECKS.is("of the other block", x.lie(1, 1), 0);
        x.fence(10, true);
        CHECKS.is("behind a fence", x.lie(0, 1), 0);
    }

    private static void promise13NoBlock() {
        for (int k : new int[] {-1, 3, 11, 12, LEAST, GREATEST}) {
            CHECKS.throwsIndex("block " + k, Meadows::lived, x -> x.lie(k, 0));
            CHECKS.throwsIndex("block " + k + ", and lie 3", Meadows::lived, x -> x.lie(k, 3));
            CHECKS.throwsIndex("block " + k + ", and lie -3", Meadows::lived, x -> x.lie(k, -3));
        }
        CHECKS.throwsIndex("block 1 of one", FencedRows::new, x -> x.lie(1, 0));
        CHECKS.throwsIndex("block 12 of twelve", Meadows::fullOfFences, x -> x.lie(12, 0));
    }

    private static void promise13NoLie() {
        for (int v : new int[] {-3, 3, LEAST, GREATEST}) {
            CHECKS.throwsArgument("lie " + v, Meadows::lived, x -> x.lie(0, v));
            CHECKS.throwsArgument("lie " + v + " of the last block", Meadows::lived, x -> x.lie(2, v));
        }
    }

    private static void promise14Tells() {
        FencedRows x = Meadows.fullOfFences();
        x.away(3, true);
        x.away(47, true);
        x.lie(5, 2);
        x.tell();
        for (int k = 0; k < 12; k++) {
            int due = k == 3 ? 0 : k == 5 ? 3 : k == 11 ? 36 : 1;
            CHECKS.is("the sum of block " + k, x.blockOf(k, 5), due);
        }
        x.away(3, false);
        x.tell();
        CHECKS.is("told anew", x.blockOf(3, 5), 1);
    }

    private static void promise14Together() {
        CHECKS.answers("one block", FencedRows::new, FencedRows::tell, 48);
        FencedRows x = Meadows.front(1, 1);
        x.weigh(5, 20);
        x.away(4, true);
        CHECKS.is("two blocks", x.tell(), 48 + 19 - 1);
        x.lie(1, 2);
        CHECKS.is("with a lie", x.tell(), 48 + 19 - 1 + 2);
        x.away(0, true);
        x.away(1, true);
        x.lie(0, -2);
        CHECKS.is("one below 0", x.tell(), -2 + 46 + 19 - 1 + 2);
        x.fence(2, false);
        CHECKS.is("fewer blocks than before", x.tell(), 46 + 19 - 1);
        FencedRows none = new FencedRows();
        for (int r = 0; r < 48; r++) {
            none.away(r, true);
        }
        CHECKS.is("nobody there", none.tell(), 0);
        none.lie(0, -2);
        CHECKS.is("all together below 0", none.tell(), -2);
    }

    // ---- promises 15 and 16

    private static void promise15Searches() {
        int[] due = {2, 1, 2};
        for (int way = 0; way <= 2; way++) {
            int w = way;
            CHECKS.answers("way " + way, Meadows::uneven, x -> x.seek(w), due[way]);
            CHECKS.answers("way " + way + " takes the row", Meadows::uneven, x -> x.seek(w) * 0 + x.rowOf(3, 4), 1);
        }
        FencedRows losses = Meadows.uneven();
        losses.seek(0);
        CHECKS.is("way 2, losses of 1", losses.seek(2), 2);
        CHECKS.is("way 2, losses of 2", losses.seek(2), 1);
    }

    private static void promise15Looks() {
        CHECKS.answers("none", () -> {
            FencedRows x = new FencedRows();
            x.tell();
            return x;
        }, x -> x.seek(0), 0);
        FencedRows x = Meadows.uneven();
        CHECKS.is("of the first search", x.seek(0), 2);
        CHECKS.is("of the second search alone", x.seek(1), 1);
        CHECKS.is("both together", x.about(5), 3);
    }

    private static void promise15NoWay() {
        for (int way : new int[] {-1, 3, LEAST, GREATEST}) {
            CHECKS.throwsArgument("way " + way, Meadows::uneven, x -> x.seek(way));
            CHECKS.throwsArgument("way " + way + ", untrusted", Meadows::lived, x -> x.seek(way));
            CHECKS.throwsArgument("way " + way + ", and no sums", FencedRows::new, x -> x.seek(way));
        }
    }

    private static void promise15NoSums() {
        for (int way = 0; way <= 2; way++) {
            int w = way;
            CHECKS.throwsState("way " + way, () -> Meadows.front(1, 1), x -> x.seek(w));
            CHECKS.answers("setting 0 is 0, way " + way, () -> Meadows.front(1, 1), x -> x.trust(0) * 0 + x.seek(w), 2);
        }
        FencedRows x = Meadows.uneven();
        CHECKS.is("sums are told", x.seek(0), 2);
        x.fence(4, false);
        CHECKS.same("no sums any more", Checks.thrown(x, y -> y.seek(0)), IllegalStateException.class.getName());
    }

    private static void promise16Changes() {
        FencedRows x = Meadows.uneven();
        x.trust(0);
        CHECKS.is("setting 0", x.about(9), 0);
        CHECKS.is("sums are told still", x.about(4), 1);
        CHECKS.is("a look at each block", x.seek(1), 2 + 1);
        x.lie(0, -1);
        x.trust(1);
        CHECKS.is("setting 0 again", x.about(9), 1);
        CHECKS.is("none at the blocks", x.seek(1), 1);
        CHECKS.is("lies stay", x.blockOf(0, 4), -1);
    }

    private static void promise16Values() {
        FencedRows x = new FencedRows();
        for (int v : new int[] {0, 0, 1, 1, 0}) {
            x.trust(v);
            CHECKS.is("setting 0", x.about(9), v);
        }
    }

    private static void promise16Previous() {
        FencedRows x = new FencedRows();
        CHECKS.is("at first", x.trust(0), 1);
        CHECKS.is("then", x.trust(0), 0);
        CHECKS.is("back", x.trust(1), 0);
        CHECKS.is("as it was", x.trust(1), 1);
    }

    private static void promise16Throws() {
        for (int v : new int[] {-1, 2, LEAST, GREATEST}) {
            CHECKS.throwsArgument("trust(" + v + ")", Meadows::lived, x -> x.trust(v));
            CHECKS.throwsArgument("trust(" + v + ") of a new object", FencedRows::new, x -> x.trust(v));
        }
    }
}
