import java.util.List;

/** Promises 18 to 24. */
public final class WouldBeTest {
    static final List<String> SECTIONS = List.of("Promise 18", "Promise 19", "Promise 20", "Promise 21", "Promise 22",
            "Promise 23", "Promise 24");

    private static final Checks CHECKS = new Checks();
    private static final int NONE = FencedRows.NONE;
    private static final int LEAST = Integer.MIN_VALUE;
    private static final int GREATEST = Integer.MAX_VALUE;
    private static final int[] NO_BLOCKS = {-1, 3, 11, 12, LEAST, GREATEST};
    private static final int[] NO_WAYS = {-1, 3, LEAST, GREATEST};

    public static void main(String[] args) throws Exception {
        Sentences s = new Sentences(CHECKS, SECTIONS);
        promises18And19(s);
        promises20And21(s);
        promises22To24(s);
        s.end();
    }

    private static void promises18And19(Sentences s) {
        s.in("Promise 18");
        s.holds("Tells what a search would bring.", WouldBeTest::promise18ChangesNothing);
        s.holds("way: 0 to 2", WouldBeTest::promise18Ways);
        s.holds("what: 0: its looks", WouldBeTest::promise18Looks);
        s.holds("1: the rows that would be taken for away", WouldBeTest::promise18Taken);
        s.holds("2: those of them that are not away", WouldBeTest::promise18Wrong);
        s.holds("3: the rows that are away and would not be taken for that", WouldBeTest::promise18Missed);
        s.holds("Returns that number, if seek(way) was called now.", WouldBeTest::promise18AsSeek);
        s.holds("Throws IllegalArgumentException if way or what is out of range", WouldBeTest::promise18OutOfRange);
        s.holds("Throws IllegalStateException if setting 0 is 1 and no sums are told", WouldBeTest::promise18NoSums);
        s.in("Promise 19");
        s.holds("Finds the way to halve that is best. Returns the way with which ifSought(.., 0) is least",
                WouldBeTest::promise19Least);
        s.holds("of several the lowest", WouldBeTest::promise19Lowest);
        s.holds("NONE if setting 0 is 1 and no sums are told.", WouldBeTest::promise19None);
    }

    private static void promises20And21(Sentences s) {
        s.in("Promise 20");
        s.holds("Tells how many looks it takes to find one row that is away in a block.", WouldBeTest::promise20AsSeek);
        s.holds("These are the looks within the block alone, if just that row is away, and what is lacking is known"
                + " and right.", WouldBeTest::promise20BlockAlone);
        s.holds("k: block", WouldBeTest::promise20Blocks);
        s.holds("way: 0 to 2", WouldBeTest::promise20Ways);
        s.holds("what: 0: the most for any row of the block", WouldBeTest::promise20Most);
        s.holds("1: the sum, for all its rows, of these looks times the losses of the row and 1, together"
                + " Returns that number.", WouldBeTest::promise20Sum);
        s.holds("Throws IndexOutOfBoundsException if there is no such block", WouldBeTest::promise20NoBlock);
        s.holds("Throws IllegalArgumentException if way or what is out of range", WouldBeTest::promise20OutOfRange);
        s.in("Promise 21");
        s.holds("Tells how few looks any halving could need.", WouldBeTest::promise21Few);
        s.holds("k: block", WouldBeTest::promise21Blocks);
        s.holds("Returns the least that looks(k, .., 1) could be, wherever rows side by side are halved each time.",
                WouldBeTest::promise21OfAllTrees);
        s.holds("Throws IndexOutOfBoundsException if there is no such block", WouldBeTest::promise21NoBlock);
    }

    private static void promises22To24(Sentences s) {
        s.in("Promise 22");
        s.holds("Tells how even blocks could be.", WouldBeTest::promise22NotAsTheyAre);
        s.holds("n: 1 to 11", WouldBeTest::promise22Counts);
        s.holds("Returns the least that the greatest book of a block could be with n fences",
                WouldBeTest::promise22Least);
        s.holds("with n fences or fewer.", WouldBeTest::promise22OrFewer);
        s.holds("Throws IllegalArgumentException if n is out of range", WouldBeTest::promise22Throws);
        s.in("Promise 23");
        s.holds("Tells whether a told sum can be true. k: block", WouldBeTest::promise23Blocks);
        s.holds("Returns 1 if there are rows of the block", WouldBeTest::promise23RowsOfTheBlock);
        s.holds("(perhaps none, perhaps all)", WouldBeTest::promise23NoneOrAll);
        s.holds("whose weights together are the sum that it is told, otherwise 0.", WouldBeTest::promise23Sums);
        s.holds("Throws IndexOutOfBoundsException if there is no such block", WouldBeTest::promise23NoBlock);
        s.holds("Throws IllegalStateException if no sums are told", WouldBeTest::promise23NoSums);
        s.in("Promise 24");
        s.holds("Finds the block that is doubted most. Returns the block whose told sum is farthest from its field now",
                WouldBeTest::promise24Farthest);
        s.holds("of several the lowest", WouldBeTest::promise24Lowest);
        s.holds("NONE if each told sum is the field of its block now", WouldBeTest::promise24EachIsTrue);
        s.holds("or no sums are told.", WouldBeTest::promise24NoSums);
    }

    // ---- promises 18 and 19

    /** Of the first four rows one would be taken wrongly by a lie; two rows behind them went away since the telling. */
    private static FencedRows mistaken() {
        FencedRows x = Meadows.front(1, 1, 1, 1);
        x.lie(0, -1);
        x.tell();
        x.away(20, true);
        x.away(21, true);
        return x;
    }

    private static void promise18ChangesNothing() {
        for (int what = 0; what <= 3; what++) {
            int w = what;
            CHECKS.keeps("ifSought(0, " + what + ")", WouldBeTest::mistaken, x -> x.ifSought(0, w));
            CHECKS.keeps("untrusted ifSought(2, " + what + ")", Meadows::lived, x -> x.ifSought(2, w));
        }
    }

    private static void promise18Ways() {
        int[] due = {2, 1, 2};
        for (int way = 0; way <= 2; way++) {
            int w = way;
            CHECKS.answers("way " + way, Meadows::uneven, x -> x.ifSought(w, 0), due[way]);
        }
        FencedRows x = Meadows.uneven();
        x.seek(0);
        x.seek(0);
        CHECKS.is("way 2 with losses", x.ifSought(2, 0), 1);
    }

    private static void promise18Looks() {
        CHECKS.answers("of a lie", WouldBeTest::mistaken, x -> x.ifSought(0, 0), 2);
        CHECKS.answers("untrusted", WouldBeTest::mistaken, x -> x.trust(0) * 0 + x.ifSought(0, 0), 2 + 5 + 1);
        FencedRows x = new FencedRows();
        x.tell();
        CHECKS.is("none", x.ifSought(0, 0), 0);
        FencedRows y = Meadows.uneven();
        y.seek(0);
        CHECKS.is("not those so far", y.ifSought(0, 0), 2);
    }

    private static void promise18Taken() {
        CHECKS.answers("of a lie", WouldBeTest::mistaken, x -> x.ifSought(0, 1), 1);
        CHECKS.answers("untrusted", WouldBeTest::mistaken, x -> x.trust(0) * 0 + x.ifSought(0, 1), 2);
        CHECKS.answers("all", Meadows::allAway, x -> x.tell() + x.ifSought(0, 1), 48);
        CHECKS.answers("none", FencedRows::new, x -> x.tell() * 0 + x.ifSought(0, 1), 0);
    }

    private static void promise18Wrong() {
        CHECKS.answers("of a lie", WouldBeTest::mistaken, x -> x.ifSought(0, 2), 1);
        CHECKS.answers("untrusted", WouldBeTest::mistaken, x -> x.trust(0) * 0 + x.ifSought(0, 2), 0);
        CHECKS.answers("all of them were away", Meadows::allAway, x -> x.tell() + x.ifSought(0, 2), 0);
        FencedRows x = Meadows.allAway();
        x.tell();
        for (int r = 0; r < 48; r++) {
            x.away(r, false);
        }
        CHECKS.is("all", x.ifSought(0, 2), 48);
    }

    private static void promise18Missed() {
        CHECKS.answers("since the telling", WouldBeTest::mistaken, x -> x.ifSought(0, 3), 2);
        CHECKS.answers("untrusted", WouldBeTest::mistaken, x -> x.trust(0) * 0 + x.ifSought(0, 3), 0);
        FencedRows x = new FencedRows();
        x.tell();
        for (int r = 0; r < 48; r++) {
            x.away(r, true);
        }
        CHECKS.is("all", x.ifSought(0, 3), 48);
    }

    private static void promise18AsSeek() {
        for (int way = 0; way <= 2; way++) {
            for (Checks.Maker maker : List.<Checks.Maker>of(WouldBeTest::mistaken, Meadows::uneven, Meadows::lived,
                    Turns::meadow)) {
                FencedRows x = maker.made();
                int[] due = {x.ifSought(way, 0), x.ifSought(way, 1), x.ifSought(way, 2), x.ifSought(way, 3)};
                CHECKS.is("looks by " + way, x.seek(way), due[0]);
                for (int what = 1; what <= 3; what++) {
                    CHECKS.is("number " + what + " by " + way, x.about(5 + what), due[what]);
                }
            }
        }
        FencedRows x = mistaken();
        x.seek(0);
        x.away(20, false);
        CHECKS.is("now, not at the latest search", x.ifSought(0, 3), 1);
    }

    private static void promise18OutOfRange() {
        for (int way : NO_WAYS) {
            CHECKS.throwsArgument("way " + way, Meadows::uneven, x -> x.ifSought(way, 0));
            CHECKS.throwsArgument("way " + way + ", untrusted", Meadows::lived, x -> x.ifSought(way, 3));
            CHECKS.throwsArgument("way " + way + ", and no sums", FencedRows::new, x -> x.ifSought(way, 0));
        }
        for (int what : new int[] {-1, 4, LEAST, GREATEST}) {
            CHECKS.throwsArgument("number " + what, Meadows::uneven, x -> x.ifSought(0, what));
            CHECKS.throwsArgument("number " + what + ", untrusted", Meadows::lived, x -> x.ifSought(2, what));
            CHECKS.throwsArgument("number " + what + ", and no sums", FencedRows::new, x -> x.ifSought(0, what));
        }
    }

    private static void promise18NoSums() {
        for (int what = 0; what <= 3; what++) {
            int w = what;
            CHECKS.throwsState("number " + what, () -> Meadows.front(1, 1), x -> x.ifSought(w % 3, w));
            CHECKS.throwsNothing("number " + what + ", untrusted", () -> Meadows.front(1, 1),
                    x -> x.trust(0) + x.ifSought(w % 3, w));
        }
        FencedRows x = Meadows.uneven();
        x.fence(20, true);
        CHECKS.same("none any more", Checks.thrown(x, y -> y.ifSought(0, 0)), IllegalStateException.class.getName());
    }

    private static void promise19Least() {
        FencedRows x = Meadows.uneven();
        CHECKS.is("by weights, 1 look of 2, 1 and 2", x.bestWay(), 1);
        x.weigh(3, 1);
        x.tell();
        x.seek(0);
        x.seek(0);
        CHECKS.is("by losses, 1 look of 2, 2 and 1", x.bestWay(), 2);
        FencedRows rows = Meadows.front(9, 1, 1, 1);
        rows.away(3, true);
        rows.tell();
        CHECKS.is("by rows, 2 looks of 2, 3 and 2", rows.bestWay(), 0);
    }

    private static void promise19Lowest() {
        CHECKS.answers("no looks by each", FencedRows::new, x -> x.tell() * 0 + x.bestWay(), 0);
        FencedRows x = Meadows.uneven();
        x.seek(0);
        x.seek(0);
        CHECKS.is("2, 1 and 1 looks", x.bestWay(), 1);
        FencedRows alike = Meadows.front(1, 1, 1, 1);
        alike.away(3, true);
        alike.tell();
        CHECKS.is("2, 2 and 2 looks", alike.bestWay(), 0);
        FencedRows ends = Meadows.front(9, 1, 1, 1);
        ends.away(3, true);
        ends.tell();
        ends.seek(0);
        CHECKS.is("2, 3 and 2 looks", ends.bestWay(), 0);
    }

    private static void promise19None() {
        CHECKS.answers("no sums yet", () -> Meadows.front(1, 1), FencedRows::bestWay, NONE);
        CHECKS.answers("untrusted", () -> Meadows.front(1, 1), x -> x.trust(0) * 0 + x.bestWay(), 0);
        FencedRows x = Meadows.uneven();
        x.fence(40, true);
        CHECKS.is("no sums any more", x.bestWay(), NONE);
        x.trust(0);
        CHECKS.is("untrusted then", x.bestWay(), 1);
    }

    // ---- promises 20 and 21

    private static void promise20AsSeek() {
        int[] weights = {3, 9, 1, 1, 5};
        for (int way = 0; way <= 2; way++) {
            int most = 0;
            int sum = 0;
            for (int r = 0; r < weights.length; r++) {
                FencedRows x = Meadows.front(weights);
                x.away(r, true);
                x.tell();
                int looks = x.seek(way);
                most = Math.max(most, looks);
                sum += looks;
            }
            CHECKS.is("the most by " + way, Meadows.front(weights).looks(0, way, 0), most);
            CHECKS.is("all by " + way, Meadows.front(weights).looks(0, way, 1), sum);
        }
    }

    private static void promise20BlockAlone() {
        FencedRows x = Meadows.front(9, 1, 1, 1);
        int due = 1 + 2 + 3 + 3;
        CHECKS.is("all there, no sums", x.looks(0, 1, 1), due);
        x.away(0, true);
        x.away(1, true);
        x.away(20, true);
        CHECKS.is("others away", x.looks(0, 1, 1), due);
        x.lie(0, -2);
        x.tell();
        CHECKS.is("lies", x.looks(0, 1, 1), due);
        x.trust(0);
        CHECKS.is("no look at the block", x.looks(0, 1, 1), due);
    }

    private static void promise20Blocks() {
        FencedRows x = Meadows.front(1);
        x.fence(4, true);
        x.fence(8, true);
        int[] most = {0, 2, 2, 6};
        int[] sum = {0, 5, 8, 24 * 5 + 16 * 6};
        for (int k = 0; k < 4; k++) {
            CHECKS.is("the most of block " + k, x.looks(k, 0, 0), most[k]);
            CHECKS.is("all of block " + k, x.looks(k, 0, 1), sum[k]);
        }
        CHECKS.answers("block 11", Meadows::fullOfFences, y -> y.looks(11, 0, 0), 6);
    }

    private static void promise20Ways() {
        int[] most = {2, 3, 3};
        int[] sum = {14, 12, 12};
        FencedRows x = Meadows.uneven();
        for (int i = 0; i < 3; i++) {
            x.seek(0);
        }
        for (int way = 0; way <= 2; way++) {
            CHECKS.is("the most by " + way, x.looks(0, way, 0), most[way]);
            CHECKS.is("all by " + way, x.looks(0, way, 1), sum[way]);
        }
    }

    private static void promise20Most() {
        CHECKS.answers("of one row none", Meadows::fullOfFences, x -> x.looks(0, 0, 0), 0);
        CHECKS.answers("of two rows", () -> Meadows.front(1, 1), x -> x.looks(0, 0, 0), 1);
        CHECKS.answers("of three rows", () -> Meadows.front(1, 1, 1), x -> x.looks(0, 0, 0), 2);
        CHECKS.answers("of 48 rows", FencedRows::new, x -> x.looks(0, 0, 0), 6);
        FencedRows x = new FencedRows();
        for (int r = 0; r < 7; r++) {
            x.weigh(r, 1 << 6 - r);
        }
        x.fence(7, true);
        CHECKS.is("of weights that are half of the one ahead", x.looks(0, 1, 0), 6);
        CHECKS.is("fewer by rows, behind that", x.looks(0, 0, 0), 3);
        x.fence(1, true);
        CHECKS.is("of one row, behind that", x.looks(0, 1, 0), 0);
    }

    private static void promise20Sum() {
        CHECKS.answers("of one row none", Meadows::fullOfFences, x -> x.looks(0, 0, 1), 0);
        CHECKS.answers("of 48 rows", FencedRows::new, x -> x.looks(0, 0, 1), 16 * 5 + 32 * 6);
        FencedRows x = Meadows.front(1, 1, 1);
        x.away(2, true);
        x.tell();
        x.seek(0);
        CHECKS.is("losses of 1", x.looks(0, 0, 1), 1 + 2 + 2 * 2);
        x.seek(0);
        x.seek(0);
        CHECKS.is("losses of 3", x.looks(0, 0, 1), 1 + 2 + 2 * 4);
        CHECKS.is("losses of 3 by losses", x.looks(0, 2, 1), 2 + 2 + 4);
        FencedRows most = Meadows.allAway();
        most.trust(0);
        for (int i = 0; i < 100; i++) {
            most.seek(0);
        }
        CHECKS.is("losses of 99 of all rows", most.looks(0, 2, 1), 272 * 100);
    }

    private static void promise20NoBlock() {
        for (int k : NO_BLOCKS) {
            CHECKS.throwsIndex("block " + k, Meadows::lived, x -> x.looks(k, 0, 0));
            CHECKS.throwsIndex("block " + k + ", and no such way", Meadows::lived, x -> x.looks(k, 3, 0));
            CHECKS.throwsIndex("block " + k + ", and no such number", Meadows::lived, x -> x.looks(k, 0, 2));
        }
        CHECKS.throwsIndex("block 1 of one", FencedRows::new, x -> x.looks(1, 0, 0));
        CHECKS.throwsIndex("block 12 of twelve", Meadows::fullOfFences, x -> x.looks(12, 0, 0));
    }

    private static void promise20OutOfRange() {
        for (int way : NO_WAYS) {
            CHECKS.throwsArgument("way " + way, Meadows::lived, x -> x.looks(0, way, 0));
        }
        for (int what : new int[] {-1, 2, LEAST, GREATEST}) {
            CHECKS.throwsArgument("number " + what, Meadows::lived, x -> x.looks(2, 0, what));
        }
    }

    private static void promise21Few() {
        CHECKS.answers("48 rows", FencedRows::new, x -> x.leastLooks(0), 272);
        CHECKS.answers("three rows", () -> Meadows.front(1, 1, 1), x -> x.leastLooks(0), 5);
        CHECKS.answers("two rows", () -> Meadows.front(1, 1), x -> x.leastLooks(0), 2);
        CHECKS.answers("one row", () -> Meadows.front(1), x -> x.leastLooks(0), 0);
        CHECKS.answers("weights do not matter", () -> Meadows.front(99, 1, 1), x -> x.leastLooks(0), 5);
        FencedRows most = Meadows.allAway();
        most.trust(0);
        for (int i = 0; i < 100; i++) {
            most.seek(0);
        }
        CHECKS.is("losses of 99 of all rows", most.leastLooks(0), 272 * 100);
    }

    private static void promise21Blocks() {
        FencedRows x = Meadows.front(1);
        x.fence(4, true);
        x.fence(8, true);
        int[] due = {0, 5, 8, 24 * 5 + 16 * 6};
        for (int k = 0; k < 4; k++) {
            CHECKS.is("block " + k, x.leastLooks(k), due[k]);
        }
        CHECKS.answers("block 11", Meadows::fullOfFences, y -> y.leastLooks(11), 27 * 5 + 10 * 6);
    }

    /** Five rows with these losses, in a block of their own. */
    private static FencedRows withLosses(int... losses) {
        FencedRows x = Meadows.front(1, 1, 1, 1, 1);
        x.trust(0);
        for (int r = 0; r < losses.length; r++) {
            x.away(r, true);
            for (int i = 0; i < losses[r]; i++) {
                x.seek(0);
            }
            x.away(r, false);
        }
        return x;
    }

    private static void promise21OfAllTrees() {
        int[][] losses = {{0, 0, 0, 0, 0}, {1, 3, 3, 6, 7}, {9, 0, 0, 0, 9}, {0, 0, 9, 0, 0}, {20, 1, 2, 3, 40},
            {5, 0, 0, 5, 6}};
        for (int[] of : losses) {
            FencedRows x = withLosses(of);
            int least = x.leastLooks(0);
            CHECKS.is("the least of all trees", least, leastOfAll(of, 0, of.length));
            for (int way = 0; way < 3; way++) {
                CHECKS.yes("no way needs less", least <= x.looks(0, way, 1));
            }
        }
        FencedRows x = withLosses(0, 0, 0, 0, 9);
        CHECKS.is("the last row alone at once", x.leastLooks(0), 10 + 4 + 8);
        CHECKS.is("where by rows it is more", x.looks(0, 0, 1), 2 + 2 + 2 + 3 + 30);
    }

    /** Tries each tree. */
    private static int leastOfAll(int[] losses, int from, int end) {
        if (end - from == 1) {
            return 0;
        }
        int all = 0;
        for (int r = from; r < end; r++) {
            all += losses[r] + 1;
        }
        int best = GREATEST;
        for (int m = from + 1; m < end; m++) {
            best = Math.min(best, leastOfAll(losses, from, m) + leastOfAll(losses, m, end));
        }
        return best + all;
    }

    private static void promise21NoBlock() {
        for (int k : NO_BLOCKS) {
            CHECKS.throwsIndex("block " + k, Meadows::lived, x -> x.leastLooks(k));
        }
        CHECKS.throwsIndex("block 1 of one", FencedRows::new, x -> x.leastLooks(1));
        CHECKS.throwsIndex("block 12 of twelve", Meadows::fullOfFences, x -> x.leastLooks(12));
    }

    // ---- promises 22 to 24

    private static void promise22NotAsTheyAre() {
        FencedRows x = Meadows.fullOfFences();
        x.away(0, true);
        CHECKS.is("who is away and where fences are does not matter", x.balanced(1), 24);
        CHECKS.is("nothing is changed", x.about(0), 12);
    }

    private static void promise22Counts() {
        int[] due = {24, 16, 12, 10, 8, 7, 6, 6, 5, 5, 4};
        FencedRows x = new FencedRows();
        for (int n = 1; n <= 11; n++) {
            CHECKS.is("balanced(" + n + ")", x.balanced(n), due[n - 1]);
        }
    }

    private static FencedRows allHeavy() {
        FencedRows x = new FencedRows();
        for (int r = 0; r < 48; r++) {
            x.weigh(r, 99);
        }
        return x;
    }

    private static void promise22Least() {
        CHECKS.answers("all as heavy as can be, one fence", WouldBeTest::allHeavy, x -> x.balanced(1), 24 * 99);
        CHECKS.answers("all as heavy as can be, eleven", WouldBeTest::allHeavy, x -> x.balanced(11), 4 * 99);
        FencedRows middle = new FencedRows();
        middle.weigh(20, 99);
        CHECKS.is("a heavy row in the middle, one fence", middle.balanced(1), 99 + 20);
        CHECKS.is("a heavy row in the middle, two fences", middle.balanced(2), 99);
        FencedRows front = new FencedRows();
        front.weigh(0, 99);
        CHECKS.is("a heavy row in front", front.balanced(1), 99);
        FencedRows back = new FencedRows();
        back.weigh(47, 99);
        CHECKS.is("a heavy row at the end", back.balanced(1), 99);
    }

    private static void promise22OrFewer() {
        FencedRows x = new FencedRows();
        x.weigh(20, 99);
        CHECKS.is("two of eleven are enough", x.balanced(11), 99);
        CHECKS.answers("nine of ten are enough", FencedRows::new, y -> y.balanced(10), 5);
    }

    private static void promise22Throws() {
        for (int n : new int[] {0, 12, -1, LEAST, GREATEST}) {
            CHECKS.throwsArgument("balanced(" + n + ")", Meadows::lived, x -> x.balanced(n));
        }
    }

    private static void promise23Blocks() {
        FencedRows x = Meadows.fullOfFences();
        x.lie(11, 1);
        x.tell();
        for (int k = 0; k <= 11; k++) {
            CHECKS.is("block " + k, x.canBe(k), k == 11 ? 0 : 1);
        }
    }

    private static void promise23RowsOfTheBlock() {
        FencedRows x = Meadows.front(2, 2);
        x.lie(0, -1);
        x.tell();
        CHECKS.is("3 of 2 and 2, though others weigh 1", x.canBe(0), 0);
        FencedRows later = Meadows.front(2, 5, 5, 90);
        later.tell();
        later.weigh(0, 1);
        CHECKS.is("by their weights now", later.canBe(0), 0);
        later.weigh(0, 2);
        later.away(1, true);
        CHECKS.is("also rows that are away", later.canBe(0), 1);
    }

    private static void promise23NoneOrAll() {
        FencedRows none = Meadows.front(3, 3);
        none.away(0, true);
        none.away(1, true);
        none.tell();
        CHECKS.is("0, by none", none.canBe(0), 1);
        none.lie(0, -1);
        none.tell();
        CHECKS.is("-1", none.canBe(0), 0);
        none.lie(0, -2);
        none.tell();
        CHECKS.is("-2", none.canBe(0), 0);
        FencedRows all = Meadows.front(3, 3);
        all.tell();
        CHECKS.is("6, by all", all.canBe(0), 1);
        all.lie(0, 1);
        all.tell();
        CHECKS.is("7", all.canBe(0), 0);
        CHECKS.answers("all of 48 rows of 99", WouldBeTest::allHeavy, x -> x.tell() * 0 + x.canBe(0), 1);
        CHECKS.answers("1 more", WouldBeTest::allHeavy, x -> x.lie(0, 1) + x.tell() * 0 + x.canBe(0), 0);
        CHECKS.answers("1 less", WouldBeTest::allHeavy, x -> x.lie(0, -1) + x.tell() * 0 + x.canBe(0), 0);
        for (int weight = 1; weight <= 3; weight++) {
            FencedRows x = Meadows.allAway();
            for (int r = 0; r < 48; r++) {
                x.weigh(r, weight);
            }
            for (int lie = -2; lie <= 0; lie++) {
                x.lie(0, lie);
                x.tell();
                CHECKS.is(lie + " of 48 rows of " + weight, x.canBe(0), lie < 0 ? 0 : 1);
            }
        }
    }

    private static int canBe(int lie, boolean... away) {
        FencedRows x = Meadows.front(2, 5, 5, 90);
        for (int r = 0; r < away.length; r++) {
            x.away(r, away[r]);
        }
        x.lie(0, lie);
        x.tell();
        return x.canBe(0);
    }

    /** Sums of 2, 5, 5 and 90: 0, 2, 5, 7, 10, 12 and 90 more than these. */
    private static void promise23Sums() {
        CHECKS.is("103", canBe(1), 0);
        CHECKS.is("102", canBe(0), 1);
        CHECKS.is("101", canBe(-1), 0);
        CHECKS.is("100", canBe(-2), 1);
        CHECKS.is("1", canBe(1, true, true, true, true), 0);
        CHECKS.is("2", canBe(2, true, true, true, true), 1);
        CHECKS.is("4", canBe(2, false, true, true, true), 0);
        CHECKS.is("12", canBe(0, false, false, false, true), 1);
        CHECKS.is("14", canBe(2, false, false, false, true), 0);
        CHECKS.is("92", canBe(2, true, true, true, false), 1);
        CHECKS.is("91", canBe(1, true, true, true, false), 0);
        FencedRows x = Meadows.front(64, 64, 1, 1);
        x.away(2, true);
        x.away(3, true);
        x.tell();
        CHECKS.is("128 of 64 and 64", x.canBe(0), 1);
        x.weigh(1, 99);
        CHECKS.is("128 of 64, 99, 1 and 1", x.canBe(0), 0);
        x.away(1, true);
        x.tell();
        CHECKS.is("64 of 64, 99, 1 and 1", x.canBe(0), 1);
        for (int w = 1; w <= 99; w++) {
            FencedRows y = Meadows.front(63, w, 99);
            y.away(2, true);
            y.tell();
            CHECKS.is("63 and " + w, y.canBe(0), 1);
            y.away(0, true);
            y.tell();
            CHECKS.is(w + " of 63, " + w + " and 99", y.canBe(0), 1);
            y.lie(0, 1);
            y.tell();
            CHECKS.is(w + 1 + " of 63, " + w + " and 99", y.canBe(0), w == 62 || w == 98 ? 1 : 0);
        }
    }

    private static void promise23NoBlock() {
        for (int k : NO_BLOCKS) {
            CHECKS.throwsIndex("block " + k, Meadows::lived, x -> x.canBe(k));
            CHECKS.throwsIndex("block " + k + ", and no sums", () -> Meadows.front(1), x -> x.canBe(k));
        }
        CHECKS.throwsIndex("block 1 of one", FencedRows::new, x -> x.canBe(1));
        CHECKS.throwsIndex("block 12 of twelve", Meadows::fullOfFences, x -> x.canBe(12));
    }

    private static void promise23NoSums() {
        CHECKS.throwsState("none yet", () -> Meadows.front(1, 1), x -> x.canBe(1));
        CHECKS.throwsState("none yet, untrusted", () -> {
            FencedRows x = Meadows.front(1, 1);
            x.trust(0);
            return x;
        }, x -> x.canBe(0));
        FencedRows x = Meadows.uneven();
        CHECKS.is("told", x.canBe(1), 1);
        x.fence(4, false);
        CHECKS.same("none any more", Checks.thrown(x, y -> y.canBe(0)), IllegalStateException.class.getName());
    }

    /** Three blocks, of the rows 0 to 3, 4 to 9, and 10 to 47, whose sums were told when all were there. */
    private static FencedRows threeTold() {
        FencedRows x = Meadows.front(1, 1, 1, 1);
        x.fence(10, true);
        x.tell();
        return x;
    }

    private static void promise24Farthest() {
        FencedRows x = threeTold();
        x.away(20, true);
        CHECKS.is("the last, by 1", x.farthest(), 2);
        x.away(5, true);
        x.away(6, true);
        CHECKS.is("the middle one, by 2", x.farthest(), 1);
        x.weigh(0, 9);
        CHECKS.is("the first, by 8 less than now", x.farthest(), 0);
        x.weigh(0, 1);
        x.weigh(20, 30);
        CHECKS.is("who is away does not count", x.farthest(), 1);
        x.away(20, false);
        CHECKS.is("the last, by 29", x.farthest(), 2);
        FencedRows lies = Meadows.front(1, 1, 1, 1);
        lies.lie(0, -1);
        lies.lie(1, 2);
        lies.tell();
        CHECKS.is("lies of -1 and 2", lies.farthest(), 1);
        lies.lie(0, -2);
        lies.lie(1, 1);
        lies.tell();
        CHECKS.is("lies of -2 and 1", lies.farthest(), 0);
    }

    private static void promise24Lowest() {
        FencedRows x = threeTold();
        x.away(20, true);
        x.away(5, true);
        CHECKS.is("the last two", x.farthest(), 1);
        x.weigh(0, 2);
        CHECKS.is("all three, one by more and two by less", x.farthest(), 0);
    }

    private static void promise24EachIsTrue() {
        CHECKS.answers("told now", WouldBeTest::threeTold, FencedRows::farthest, NONE);
        FencedRows x = threeTold();
        x.away(20, true);
        x.tell();
        CHECKS.is("told again", x.farthest(), NONE);
        x.lie(0, -2);
        CHECKS.is("a lie that was not told", x.farthest(), NONE);
        x.tell();
        CHECKS.is("a lie that was told", x.farthest(), 0);
        x.away(0, true);
        x.away(1, true);
        CHECKS.is("a lie that came true", x.farthest(), NONE);
    }

    private static void promise24NoSums() {
        CHECKS.answers("none yet", FencedRows::new, FencedRows::farthest, NONE);
        FencedRows x = threeTold();
        x.away(20, true);
        x.fence(10, false);
        CHECKS.is("none any more", x.farthest(), NONE);
        CHECKS.answers("untrusted", Meadows::lived, FencedRows::farthest, 2);
    }
}
