import java.util.List;

/** EXCEPTIONS. */
public final class ExceptionsTest {
    static final List<String> SECTIONS = List.of("EXCEPTIONS");

    private static final Checks CHECKS = new Checks();
    private static final int LEAST = Integer.MIN_VALUE;
    private static final int GREATEST = Integer.MAX_VALUE;

    public static void main(String[] args) throws Exception {
        Sentences s = new Sentences(CHECKS, SECTIONS);
        s.in("EXCEPTIONS");
        s.holds("IndexOutOfBoundsException means that a row", ExceptionsTest::noSuchRow);
        s.holds("a block", ExceptionsTest::noSuchBlock);
        s.holds("or a place of a fence does not exist", ExceptionsTest::noSuchPlace);
        s.holds("or that a save slot is not 0 or 1.", ExceptionsTest::noSuchSlot);
        s.holds("IllegalArgumentException means that another argument is out of its range.",
                ExceptionsTest::outOfRange);
        s.holds("IllegalStateException means what the method says.", ExceptionsTest::whatTheMethodSays);
        s.holds("If several exceptions apply to a call, the one that its description names first is thrown.",
                ExceptionsTest::firstNamed);
        s.holds("A call that throws an exception changes nothing.", ExceptionsTest::changesNothing);
        s.end();
    }

    private static void noSuchRow() {
        for (int r : new int[] {-1, 48, LEAST, GREATEST}) {
            CHECKS.throwsIndex("rowOf, row " + r, Meadows::lived, x -> x.rowOf(r, 0));
            CHECKS.throwsIndex("weigh, row " + r, Meadows::lived, x -> x.weigh(r, 1));
            CHECKS.throwsIndex("away, row " + r, Meadows::lived, x -> x.away(r, false));
        }
    }

    /** There are the blocks 0 to 2; block 3 is none, though there could be one. */
    private static void noSuchBlock() {
        for (int k : new int[] {-1, 3, 11, 12, LEAST, GREATEST}) {
            CHECKS.throwsIndex("blockOf, block " + k, Meadows::lived, x -> x.blockOf(k, 5));
            CHECKS.throwsIndex("lie, block " + k, Meadows::lived, x -> x.lie(k, 0));
            CHECKS.throwsIndex("looks, block " + k, Meadows::lived, x -> x.looks(k, 0, 0));
            CHECKS.throwsIndex("leastLooks, block " + k, Meadows::lived, x -> x.leastLooks(k));
            CHECKS.throwsIndex("canBe, block " + k, Meadows::lived, x -> x.canBe(k));
        }
        for (int k = 0; k <= 2; k++) {
            int block = k;
            CHECKS.throwsNothing("blockOf, block " + k, Meadows::lived, x -> x.blockOf(block, 5));
            CHECKS.throwsNothing("lie, block " + k, Meadows::lived, x -> x.lie(block, 0));
            CHECKS.throwsNothing("looks, block " + k, Meadows::lived, x -> x.looks(block, 0, 0));
            CHECKS.throwsNothing("leastLooks, block " + k, Meadows::lived, x -> x.leastLooks(block));
            CHECKS.throwsNothing("canBe, block " + k, Meadows::lived, x -> x.canBe(block));
        }
    }

    private static void noSuchPlace() {
        for (int r : new int[] {0, 48, -1, LEAST, GREATEST}) {
            CHECKS.throwsIndex("put at " + r, Meadows::lived, x -> x.fence(r, true));
            CHECKS.throwsIndex("taken at " + r, Meadows::lived, x -> x.fence(r, false));
        }
    }

    private static void noSuchSlot() {
        for (int slot : new int[] {-1, 2, LEAST, GREATEST}) {
            CHECKS.throwsIndex("save, slot " + slot, Meadows::lived, x -> x.save(slot));
            CHECKS.throwsIndex("restore, slot " + slot, Meadows::lived, x -> x.restore(slot));
        }
    }

    private static void outOfRange() {
        CHECKS.throwsArgument("append", Meadows::lived, x -> x.append(256));
        CHECKS.throwsArgument("about", Meadows::lived, x -> x.about(11));
        CHECKS.throwsArgument("rowOf", Meadows::lived, x -> x.rowOf(0, 5));
        CHECKS.throwsArgument("blockOf", Meadows::lived, x -> x.blockOf(0, 6));
        CHECKS.throwsArgument("weigh", Meadows::lived, x -> x.weigh(0, 100));
        CHECKS.throwsArgument("spread", Meadows::lived, x -> x.spread(12));
        CHECKS.throwsArgument("lie", Meadows::lived, x -> x.lie(0, 3));
        CHECKS.throwsArgument("seek", Meadows::lived, x -> x.seek(3));
        CHECKS.throwsArgument("trust", Meadows::lived, x -> x.trust(2));
        CHECKS.throwsArgument("ifSought, its way", Meadows::lived, x -> x.ifSought(3, 0));
        CHECKS.throwsArgument("ifSought, its number", Meadows::lived, x -> x.ifSought(0, 4));
        CHECKS.throwsArgument("looks, its way", Meadows::lived, x -> x.looks(0, 3, 0));
        CHECKS.throwsArgument("looks, its number", Meadows::lived, x -> x.looks(0, 0, 2));
        CHECKS.throwsArgument("balanced", Meadows::lived, x -> x.balanced(12));
        CHECKS.throwsArgument("runScript, its number", Meadows::lived, x -> x.runScript(4, 0L));
        CHECKS.throwsArgument("runScript, its script", Meadows::lived, x -> x.runScript(1, 100000L));
        CHECKS.throwsArgument("simulate", Meadows::lived, x -> x.simulate(0L, 61));
    }

    private static FencedRows fullText() {
        return Meadows.typed("M" + "n".repeat(119));
    }

    private static void whatTheMethodSays() {
        CHECKS.throwsState("append to a full text", ExceptionsTest::fullText, x -> x.append('n'));
        CHECKS.throwsState("load of no meadow", () -> Meadows.typed("m"), FencedRows::load);
        CHECKS.throwsState("the sum of a block, none told", FencedRows::new, x -> x.blockOf(0, 5));
        CHECKS.throwsState("the twelfth fence", Meadows::fullOfFences, x -> x.fence(40, true));
        CHECKS.throwsState("a search, no sums told", FencedRows::new, x -> x.seek(0));
        CHECKS.throwsState("what a search would bring, no sums told", FencedRows::new, x -> x.ifSought(0, 0));
        CHECKS.throwsState("undo, no state remembered", FencedRows::new, FencedRows::undo);
        CHECKS.throwsState("whether a sum can be, none told", FencedRows::new, x -> x.canBe(0));
        CHECKS.throwsState("restore, nothing saved", FencedRows::new, x -> x.restore(0));
    }

    private static void firstNamed() {
        CHECKS.throwsArgument("append: no code, a full text", ExceptionsTest::fullText, x -> x.append(-1));
        CHECKS.throwsIndex("rowOf: no row, no number", Meadows::lived, x -> x.rowOf(48, 5));
        CHECKS.throwsIndex("blockOf: no block, no number", Meadows::lived, x -> x.blockOf(3, 6));
        CHECKS.throwsIndex("blockOf: no block, no sums", FencedRows::new, x -> x.blockOf(1, 5));
        CHECKS.throwsArgument("blockOf: no number, no sums", FencedRows::new, x -> x.blockOf(0, 6));
        CHECKS.throwsIndex("weigh: no row, no weight", Meadows::lived, x -> x.weigh(48, 0));
        CHECKS.throwsIndex("fence: no place, eleven fences", Meadows::fullOfFences, x -> x.fence(48, true));
        CHECKS.throwsIndex("lie: no block, no lie", Meadows::lived, x -> x.lie(3, 3));
        CHECKS.throwsArgument("seek: no way, no sums", FencedRows::new, x -> x.seek(3));
        CHECKS.throwsArgument("ifSought: no way, no sums", FencedRows::new, x -> x.ifSought(3, 0));
        CHECKS.throwsArgument("ifSought: no number, no sums", FencedRows::new, x -> x.ifSought(0, 4));
        CHECKS.throwsArgument("ifSought: no way, no number", Meadows::lived, x -> x.ifSought(-1, -1));
        CHECKS.throwsIndex("looks: no block, no way", Meadows::lived, x -> x.looks(3, 3, 0));
        CHECKS.throwsIndex("looks: no block, no number", Meadows::lived, x -> x.looks(3, 0, 2));
        CHECKS.throwsIndex("canBe: no block, no sums", FencedRows::new, x -> x.canBe(1));
        CHECKS.throwsArgument("runScript: no number, no script", Meadows::lived, x -> x.runScript(0, -1L));
        CHECKS.throwsIndex("restore: no slot, nothing saved", FencedRows::new, x -> x.restore(2));
    }

    /** One call of each method behind those that throw, whose answer would show what they had changed. */
    private static void changesNothing() {
        FencedRows x = Meadows.lived();
        FencedRows same = Meadows.lived();
        Checks.Use[] throwing = {y -> y.append(256), y -> y.about(11), y -> y.rowOf(48, 0), y -> y.blockOf(3, 0),
            y -> y.weigh(0, 100), y -> y.away(48, true), y -> y.fence(0, true), y -> y.spread(0), y -> y.lie(0, 3),
            y -> y.seek(3), y -> y.trust(2), y -> y.ifSought(0, 4), y -> y.looks(0, 0, 2), y -> y.leastLooks(3),
            y -> y.balanced(0), y -> y.canBe(3), y -> y.runScript(0, 0L), y -> y.simulate(0L, 0), y -> y.save(2),
            y -> y.restore(2)};
        for (int i = 0; i < throwing.length; i++) {
            CHECKS.differ("call " + i, Checks.thrown(x, throwing[i]), Checks.thrown(x, y -> 0));
        }
        CHECKS.same("all of them together", Checks.whole(x), Checks.whole(same));
        CHECKS.throwsState("load", () -> {
            FencedRows y = Meadows.lived();
            y.append('x');
            return y;
        }, FencedRows::load);
        CHECKS.throwsState("undo", () -> {
            FencedRows y = Meadows.lived();
            y.restore(1);
            return y;
        }, FencedRows::undo);
        CHECKS.throwsState("the twelfth fence, with lies and sums", () -> {
            FencedRows y = Meadows.fullOfFences();
            y.lie(3, 1);
            y.tell();
            return y;
        }, y -> y.fence(20, true));
        CHECKS.throwsState("restore of an empty slot", () -> {
            FencedRows y = Meadows.front(2, 2);
            y.save(0);
            y.weigh(0, 9);
            return y;
        }, y -> y.restore(1));
    }
}
