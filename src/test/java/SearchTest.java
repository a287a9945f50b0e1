import java.util.ArrayList;
import java.util.Arrays;
import java.util.List;

/** A SEARCH. */
public final class SearchTest {
    static final List<String> SECTIONS = List.of("A SEARCH");

    private static final Checks CHECKS = new Checks();
    private static final int[] NO_WAYS = {-1, 3, Integer.MIN_VALUE, Integer.MAX_VALUE};

    public static void main(String[] args) throws Exception {
        Sentences s = new Sentences(CHECKS, SECTIONS);
        s.in("A SEARCH");
        s.holds("A search is by a way to halve, 0, 1 or 2.", SearchTest::ways);
        s.holds("Each row has a value: with the way 0 it is 1", SearchTest::valuesOfWay0);
        s.holds("with the way 1 its weight", SearchTest::valuesOfWay1);
        s.holds("with the way 2 its losses and 1, together.", SearchTest::valuesOfWay2);
        s.holds("Some rows side by side, from a to b less 1 (at least two), are halved", SearchTest::twoRows);
        s.holds("are halved at the place m (a < m < b)", SearchTest::heavyEnds);
        s.holds("for which the values of the rows from a to m less 1, together, taken twice, are nearest to those of"
                + " all from a to b less 1", SearchTest::nearest);
        s.holds("of several the least m.", SearchTest::leastPlace);
        s.holds("Block by block: what is lacking is its book less the sum that it is told, with setting 0 as 1",
                SearchTest::lackingByTheSum);
        s.holds("with setting 0 as 0 there is one look at the block, and what is lacking is its book less its field.",
                SearchTest::lackingByALook);
        s.holds("If that is above 0, it is searched with that.", SearchTest::aboveZero);
        s.holds("To search rows from a to b less 1 with something that is lacking means:"
                + " If just their book is lacking, all of them are taken for away.", SearchTest::justTheBook);
        s.holds("Otherwise, if it is one row, there is one look at it, and it is taken for away if it is away.",
                SearchTest::oneRow);
        s.holds("Otherwise they are halved at m, and there is one look at the rows from a to m less 1.",
                SearchTest::oneLookAtTheLeft);
        s.holds("If their book is greater than their field, they are searched with the difference.",
                SearchTest::leftWithTheDifference);
        s.holds("Then, if what is lacking is greater than that difference, the rows from m to b less 1 are searched"
                + " with the rest of it.", SearchTest::rightWithTheRest);
        s.holds("Looks tell what is so now; told sums may be lies, or out of date.", SearchTest::looksTellWhatIsSo);
        s.holds("Behind a search that is an action the losses of each row that was taken for away become 1 more",
                SearchTest::lossesBehindASearch);
        s.holds("become 1 more (at most 99).", SearchTest::lossesAtMost99);
        s.holds("(Searches by commands of a text count as actions, too.)", SearchTest::searchesOfATextCount);
        s.end();
    }

    private static FencedRows away(FencedRows x, int... rows) {
        for (int r : rows) {
            x.away(r, true);
        }
        return x;
    }

    private static FencedRows back(FencedRows x, int... rows) {
        for (int r : rows) {
            x.away(r, false);
        }
        return x;
    }

    private static FencedRows told(FencedRows x) {
        x.tell();
        return x;
    }

    private static FencedRows lying(int lie, FencedRows x) {
        x.lie(0, lie);
        return x;
    }

    private static FencedRows untrusted(FencedRows x) {
        x.trust(0);
        return x;
    }

    /** Searches, and compares the looks and the rows that were taken. */
    private static void seeks(String what, FencedRows x, int way, int looks, Integer... rows) {
        CHECKS.is(what + ": looks", x.seek(way), looks);
        List<Integer> taken = new ArrayList<>();
        for (int r = 0; r < 48; r++) {
            if (x.rowOf(r, 4) == 1) {
                taken.add(r);
            }
        }
        CHECKS.same(what + ": taken", taken, Arrays.asList(rows));
    }

    /** The looks until each row of a block alone is found. */
    private static void looksForEach(String what, int way, int[] weights, int... due) {
        for (int r = 0; r < weights.length; r++) {
            seeks(what + ", row " + r, told(away(Meadows.front(weights), r)), way, due[r], r);
        }
    }

    private static void ways() {
        for (int way = 0; way <= 2; way++) {
            int w = way;
            CHECKS.throwsNothing("seek by " + way, () -> told(new FencedRows()), x -> x.seek(w));
            CHECKS.throwsNothing("ifSought by " + way, () -> told(new FencedRows()), x -> x.ifSought(w, 0));
            CHECKS.throwsNothing("looks by " + way, FencedRows::new, x -> x.looks(0, w, 0));
        }
        for (int way : NO_WAYS) {
            CHECKS.throwsArgument("seek by " + way, Meadows::lived, x -> x.seek(way));
            CHECKS.throwsArgument("ifSought by " + way, Meadows::lived, x -> x.ifSought(way, 0));
            CHECKS.throwsArgument("looks by " + way, Meadows::lived, x -> x.looks(0, way, 0));
        }
    }

    /** The last of four rows, which weighs 9 and was taken three times. */
    private static FencedRows uneven() {
        FencedRows x = untrusted(away(Meadows.front(1, 1, 1, 9), 3));
        x.seek(0);
        x.seek(0);
        x.seek(0);
        return x;
    }

    private static void valuesOfWay0() {
        CHECKS.answers("the most", SearchTest::uneven, x -> x.looks(0, 0, 0), 2);
        CHECKS.answers("all", SearchTest::uneven, x -> x.looks(0, 0, 1), 2 + 2 + 2 + 2 * 4);
    }

    /** Of 1, 1, 1 and 9 the last is alone at once, of 1, 1 and 1 the first. */
    private static void valuesOfWay1() {
        CHECKS.answers("the most", SearchTest::uneven, x -> x.looks(0, 1, 0), 3);
        CHECKS.answers("all", SearchTest::uneven, x -> x.looks(0, 1, 1), 2 + 3 + 3 + 1 * 4);
        FencedRows alike = Meadows.front(5, 5, 5, 5);
        CHECKS.is("weights that are alike", alike.looks(0, 1, 1), 8);
    }

    /** Of the losses alone, 0, 0, 0 and 3, each place would be as near as the others. */
    private static void valuesOfWay2() {
        CHECKS.answers("1, 1, 1 and 4, the most", SearchTest::uneven, x -> x.looks(0, 2, 0), 3);
        CHECKS.answers("1, 1, 1 and 4, all", SearchTest::uneven, x -> x.looks(0, 2, 1), 2 + 3 + 3 + 1 * 4);
        CHECKS.answers("no losses", () -> Meadows.front(1, 1, 1, 9), x -> x.looks(0, 2, 1), 8);
    }

    private static void twoRows() {
        looksForEach("1 and 1", 1, new int[] {1, 1}, 1, 1);
        looksForEach("99 and 1", 1, new int[] {99, 1}, 1, 1);
        looksForEach("1 and 99", 1, new int[] {1, 99}, 1, 1);
    }

    private static void heavyEnds() {
        looksForEach("the first is heavy", 1, new int[] {99, 1, 1, 1}, 1, 2, 3, 3);
        looksForEach("the last is heavy", 1, new int[] {1, 1, 1, 99}, 2, 3, 3, 1);
    }

    private static void nearest() {
        looksForEach("2 * 1 is 3 less than 5, 2 * 3 is 1 more", 1, new int[] {1, 2, 2}, 2, 2, 1);
        looksForEach("just the half", 1, new int[] {1, 1, 1, 3}, 2, 3, 3, 1);
        looksForEach("four rows are halved in the middle", 0, new int[] {1, 1, 1, 1}, 2, 2, 2, 2);
    }

    private static void leastPlace() {
        looksForEach("three rows", 0, new int[] {1, 1, 1}, 1, 2, 2);
        looksForEach("five rows", 0, new int[] {1, 1, 1, 1, 1}, 2, 2, 2, 3, 3);
        looksForEach("2, 1 and 2", 1, new int[] {2, 1, 2}, 1, 2, 2);
    }

    private static void lackingByTheSum() {
        seeks("nobody away", told(Meadows.front(1, 1, 1, 1)), 0, 0);
        seeks("one away", told(away(Meadows.front(1, 1, 1, 1), 1)), 0, 2, 1);
        seeks("nobody away, a lie of -1", told(lying(-1, Meadows.front(1, 1, 1, 1))), 0, 2, 3);
        FencedRows heavier = told(Meadows.front(1, 1, 1, 1));
        heavier.weigh(2, 3);
        seeks("the book is that of now", heavier, 0, 3);
        FencedRows blocks = away(Meadows.front(1, 1, 1, 1), 0, 5);
        blocks.fence(6, true);
        seeks("one in each of two blocks", told(blocks), 0, 2 + 1, 0, 5);
    }

    private static void lackingByALook() {
        seeks("nobody away in two blocks", untrusted(Meadows.front(1, 1, 1, 1)), 0, 2);
        seeks("one away", untrusted(away(Meadows.front(1, 1, 1, 1), 1)), 0, 2 + 2, 1);
        seeks("a whole block", untrusted(away(Meadows.front(1, 1), 0, 1)), 0, 2, 0, 1);
        seeks("a lie that is told", untrusted(told(lying(-2, Meadows.front(1, 1)))), 0, 2);
        seeks("a sum that is out of date", untrusted(away(told(Meadows.front(1, 1)), 1)), 0, 2 + 1, 1);
        seeks("one block", untrusted(new FencedRows()), 0, 1);
        seeks("twelve blocks", untrusted(Meadows.fullOfFences()), 2, 12);
    }

    private static void aboveZero() {
        seeks("lacking 1", told(lying(-1, Meadows.front(3, 3))), 0, 2);
        seeks("lacking 0", told(Meadows.front(3, 3)), 0, 0);
        seeks("lacking -1", told(lying(1, Meadows.front(3, 3))), 0, 0);
        seeks("lacking -2", told(lying(2, Meadows.front(3, 3))), 0, 0);
        seeks("lacking 0 by a lie", told(lying(1, away(Meadows.front(1, 3), 0))), 0, 0);
        seeks("lacking -1 by a lie", told(lying(2, away(Meadows.front(1, 3), 0))), 0, 0);
        FencedRows lighter = told(Meadows.front(5, 3));
        lighter.weigh(0, 1);
        seeks("lacking -4, lighter since then", away(lighter, 0), 0, 0);
        seeks("untrusted, lacking 0", untrusted(Meadows.front(3, 3)), 0, 2);
    }

    private static void justTheBook() {
        seeks("a block", told(away(Meadows.front(1, 1, 1, 1), 0, 1, 2, 3)), 0, 0, 0, 1, 2, 3);
        seeks("a block, come back", back(told(away(Meadows.front(1, 1), 0, 1)), 0, 1), 0, 0, 0, 1);
        seeks("all rows", told(away(new FencedRows(), allRows())), 0, 0, boxed(allRows()));
        seeks("the left", told(away(Meadows.front(1, 1, 1, 1), 0, 1)), 0, 1, 0, 1);
        seeks("the right", told(away(Meadows.front(1, 1, 1, 1), 2, 3)), 0, 1, 2, 3);
        seeks("one row", told(away(Meadows.front(5), 0)), 0, 0, 0);
        seeks("one row, a lie", told(lying(-1, Meadows.front(1))), 0, 0, 0);
        seeks("one less than the book", told(lying(1, away(Meadows.front(1, 1, 1, 1), 0, 1, 2, 3))), 0, 2, 0, 1, 2);
        seeks("one more than the book", told(lying(-1, away(Meadows.front(1, 1, 1, 1), 0, 1, 2, 3))), 0, 3, 0, 1, 2, 3);
    }

    private static int[] allRows() {
        int[] rows = new int[48];
        for (int r = 0; r < 48; r++) {
            rows[r] = r;
        }
        return rows;
    }

    private static Integer[] boxed(int[] rows) {
        return Arrays.stream(rows).boxed().toArray(Integer[]::new);
    }

    private static void oneRow() {
        seeks("there, less than it weighs", told(lying(-1, Meadows.front(2))), 0, 1);
        seeks("away, less than it weighs", away(told(lying(-1, Meadows.front(2))), 0), 0, 1, 0);
        seeks("there, more than it weighs", told(lying(-2, Meadows.front(1))), 0, 1);
        seeks("away, more than it weighs", told(lying(-2, away(Meadows.front(1), 0))), 0, 1, 0);
        seeks("behind a halving, there", told(lying(-1, Meadows.front(1, 1, 1, 2))), 0, 3);
        seeks("behind a halving, away", away(told(lying(-1, Meadows.front(1, 1, 1, 2))), 3), 0, 3, 3);
    }

    private static void oneLookAtTheLeft() {
        seeks("two rows, the right", told(away(Meadows.front(1, 1), 1)), 0, 1, 1);
        seeks("two rows, the left", told(away(Meadows.front(1, 1), 0)), 0, 1, 0);
        seeks("four rows, one of each half", told(away(Meadows.front(1, 1, 1, 1), 1, 2)), 0, 3, 1, 2);
        seeks("48 rows", told(away(new FencedRows(), 47)), 0, 6, 47);
    }

    private static void leftWithTheDifference() {
        seeks("nothing lacks there", told(away(Meadows.front(1, 1, 1, 1), 2)), 0, 2, 2);
        seeks("something lacks there", told(away(Meadows.front(1, 1, 1, 1), 0)), 0, 2, 0);
        seeks("less than all that is lacking", told(away(Meadows.front(1, 1, 1, 1), 1, 2, 3)), 0, 2, 1, 2, 3);
        seeks("another than was told", away(back(told(away(Meadows.front(1, 1, 1, 1), 3)), 3), 0), 0, 2, 0);
    }

    private static void rightWithTheRest() {
        FencedRows less = away(told(away(Meadows.front(1, 1, 1, 1), 3)), 0, 1);
        seeks("less than the difference is lacking", less, 0, 1, 0, 1);
        CHECKS.is("the right is not searched", less.about(8), 1);
        FencedRows equal = away(back(told(away(Meadows.front(1, 1, 1, 1), 3)), 3), 0);
        away(equal, 2);
        seeks("just the difference is lacking", equal, 0, 2, 0);
        CHECKS.is("the right is not searched then", equal.about(8), 1);
        seeks("1 more than the difference", told(away(Meadows.front(1, 1, 1, 1), 0, 3)), 0, 3, 0, 3);
        seeks("with the rest, not with all", told(away(Meadows.front(1, 1, 1, 2), 0, 3)), 0, 3, 0, 3);
    }

    private static void looksTellWhatIsSo() {
        FencedRows hidden = told(lying(1, away(Meadows.front(1, 1, 1, 1), 1)));
        seeks("a lie that hides a row", hidden, 0, 0);
        CHECKS.is("it is missed", hidden.about(8), 1);
        FencedRows late = away(told(Meadows.front(1, 1, 1, 1)), 2);
        seeks("away since the telling", late, 0, 0);
        CHECKS.is("it is missed, too", late.about(8), 1);
        FencedRows early = back(told(away(Meadows.front(1, 1, 1, 1), 2)), 2);
        seeks("back since the telling", early, 0, 2, 3);
        CHECKS.is("another is taken wrongly", early.about(7), 1);
        FencedRows moved = away(back(told(away(Meadows.front(1, 1, 1, 1), 3)), 3), 1);
        seeks("another away than at the telling", moved, 0, 2, 1);
    }

    private static void lossesBehindASearch() {
        FencedRows x = told(away(Meadows.front(1, 1, 1, 1), 1));
        x.ifSought(0, 0);
        x.bestWay();
        x.runScript(2, 4000050000L);
        x.simulate(1, 60);
        CHECKS.is("what is no action adds none", x.about(10), 0);
        x.seek(0);
        CHECKS.is("taken once", x.rowOf(1, 2), 1);
        x.seek(0);
        CHECKS.is("taken twice", x.rowOf(1, 2), 2);
        CHECKS.is("the others", x.about(10), 2);
        FencedRows wrongly = told(lying(-1, Meadows.front(1, 1, 1, 1)));
        wrongly.seek(0);
        CHECKS.is("taken wrongly", wrongly.rowOf(3, 2), 1);
        FencedRows behind = told(away(Meadows.front(1, 1, 1, 1), 3));
        int before = behind.ifSought(2, 0);
        CHECKS.is("the values of way 2 are those ahead of the search", behind.seek(2), before);
        FencedRows none = told(Meadows.front(1, 1, 1, 1));
        none.seek(0);
        CHECKS.is("nobody is taken", none.about(10), 0);
    }

    private static void lossesAtMost99() {
        FencedRows x = untrusted(away(new FencedRows(), 0, 47));
        for (int i = 1; i <= 101; i++) {
            x.seek(0);
            CHECKS.is("losses of row 0", x.rowOf(0, 2), Math.min(99, i));
            CHECKS.is("losses of row 47", x.rowOf(47, 2), Math.min(99, i));
        }
        CHECKS.is("losses of all", x.about(10), 2 * 99);
    }

    private static void searchesOfATextCount() {
        FencedRows x = Meadows.loaded("Mf04a01nk0");
        CHECKS.is("looks", x.about(5), 2);
        CHECKS.is("taken", x.about(6), 1);
        CHECKS.is("the row", x.rowOf(1, 4), 1);
        CHECKS.is("its losses", x.rowOf(1, 2), 1);
        FencedRows more = Meadows.loaded("Mf04a01nk0a40k0k1");
        CHECKS.is("looks of three", more.about(5), 2 + 2 + 2);
        CHECKS.is("losses of three", more.rowOf(1, 2), 3);
        CHECKS.is("missed in the latest", more.about(8), 1);
        CHECKS.is("left out, it does not count", Meadows.loaded("Ma01k0").about(5), 0);
    }
}
