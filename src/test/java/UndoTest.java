import java.util.List;

/** ACTIONS AND UNDO, promise 17, and what is said of groups of methods. */
public final class UndoTest {
    static final List<String> SECTIONS = List.of("ACTIONS AND UNDO", "The face", "Promise 17");

    private static final Checks CHECKS = new Checks();
    private static final String STATE = IllegalStateException.class.getName();

    public static void main(String[] args) throws Exception {
        Sentences s = new Sentences(CHECKS, SECTIONS);
        actionsAndUndo(s);
        face(s);
        s.in("Promise 17");
        s.holds("Takes back the last action that is remembered.", UndoTest::promise17Last);
        s.holds("Returns how many states are still remembered.", UndoTest::promise17HowMany);
        s.holds("Throws IllegalStateException if none is remembered", UndoTest::promise17None);
        s.end();
    }

    private static void actionsAndUndo(Sentences s) {
        s.in("ACTIONS AND UNDO");
        s.holds("The methods in the section \"actions\" change the state, which consists of everything",
                UndoTest::undoEverything);
        s.holds("but the text and the save slots.", UndoTest::undoNoTextAndSlots);
        s.holds("Each call of one of them that does not throw an exception is an action", UndoTest::undoEachAction);
        s.holds("that does not throw an exception is an action", UndoTest::undoNoThrower);
        s.holds("also if nothing becomes different", UndoTest::undoNothingDifferent);
        s.holds("(undo is none).", UndoTest::undoIsNone);
        s.holds("Before each action, the state is remembered.", UndoTest::undoBefore);
        s.holds("At most 14 states are remembered; when one more is remembered, the oldest one is forgotten.",
                UndoTest::undoAtMost14);
        s.holds("load and restore are not actions.", UndoTest::undoLoadAndRestore);
    }

    private static void face(Sentences s) {
        s.in("The face");
        s.holds("The constants: NONE = -1: There is no such result.", UndoTest::faceNone);
        s.holds("Ahead of the calls append, clearText, errorPosition, load the interface says: ---- text.",
                UndoTest::faceText);
        s.holds("Ahead of the calls about, rowOf, blockOf the interface says: ---- what there is.",
                UndoTest::faceWhatThereIs);
        s.holds("Ahead of the calls weigh, away, fence, spread, lie, tell, seek, trust, undo the interface says:"
                + " ---- actions.", UndoTest::undoEachAction);
        s.holds("Ahead of the calls ifSought, bestWay, looks, leastLooks, balanced, canBe, farthest the interface says:"
                + " ---- what would be; these and all following methods up to the save slots change nothing.",
                UndoTest::faceChangeNothing);
        s.holds("Ahead of the calls runScript, simulate the interface says: ---- scripts, simulations.",
                UndoTest::faceScripts);
        s.holds("Ahead of the calls save, restore the interface says: ---- save slots.", UndoTest::faceSlots);
    }

    /** A meadow with four states remembered: those ahead of a fence, two weights, and a row that went away. */
    private static FencedRows some() {
        FencedRows x = Meadows.front(3, 5);
        x.away(1, true);
        return x;
    }

    // ---- ACTIONS AND UNDO

    /** That undo leads back to all that there was. */
    private static void undone(String what, Checks.Use action) {
        FencedRows x = Meadows.lived();
        action.on(x);
        x.undo();
        CHECKS.same(what, Checks.seen(x), Checks.seen(Meadows.lived()));
    }

    private static void undoEverything() {
        undone("weights", x -> x.weigh(0, 99));
        undone("who is away", x -> x.away(0, true));
        undone("who came back", x -> x.away(1, false));
        undone("a fence, sums and lies", x -> x.fence(20, true));
        undone("a fence that was taken", x -> x.fence(4, false));
        undone("all fences", x -> x.spread(11));
        undone("a lie", x -> x.lie(1, -2));
        undone("sums", FencedRows::tell);
        undone("losses, looks, and who was taken", x -> x.seek(0));
        undone("setting 0", x -> x.trust(1));
        FencedRows first = new FencedRows();
        first.tell();
        first.undo();
        CHECKS.is("that no sums were told", first.about(4), 0);
        CHECKS.same("nor could be asked", Checks.thrown(first, x -> x.blockOf(0, 5)), STATE);
    }

    private static void undoNoTextAndSlots() {
        FencedRows x = new FencedRows();
        x.away(5, true);
        x.append('M');
        x.save(0);
        x.away(6, true);
        x.append('n');
        x.save(1);
        x.undo();
        x.undo();
        CHECKS.is("undone", x.about(1), 0);
        CHECKS.is("the text stays", x.clearText(), 2);
        CHECKS.is("slot 0 stays", x.restore(0) + x.about(1), 1 + 1);
        CHECKS.is("slot 1 stays", x.restore(1) + x.about(1), 1 + 2);
    }

    /** That a call leaves one more state to take back, which is the one ahead of it. */
    private static void remembered(String what, Checks.Use action) {
        FencedRows x = some();
        x.tell();
        action.on(x);
        CHECKS.is(what + ": states still remembered", x.undo(), 5);
        CHECKS.is(what + ": the field then", x.blockOf(0, 3), 3);
        CHECKS.is(what + ": the sum then", x.blockOf(0, 5), 3);
    }

    private static void undoEachAction() {
        remembered("weigh", x -> x.weigh(0, 99));
        remembered("away", x -> x.away(0, true));
        remembered("fence", x -> x.fence(30, true));
        remembered("fence taken", x -> x.fence(2, false));
        remembered("spread", x -> x.spread(3));
        remembered("lie", x -> x.lie(1, -2));
        remembered("tell", FencedRows::tell);
        remembered("seek", x -> x.seek(2));
        remembered("trust", x -> x.trust(0));
    }

    private static void undoNoThrower() {
        CHECKS.throwsIndex("weigh", UndoTest::some, x -> x.weigh(48, 1));
        CHECKS.throwsArgument("weigh 0", UndoTest::some, x -> x.weigh(0, 0));
        CHECKS.throwsIndex("away", UndoTest::some, x -> x.away(48, true));
        CHECKS.throwsIndex("fence", UndoTest::some, x -> x.fence(0, true));
        CHECKS.throwsState("the twelfth fence", Meadows::fullOfFences, x -> x.fence(20, true));
        CHECKS.throwsArgument("spread", UndoTest::some, x -> x.spread(0));
        CHECKS.throwsIndex("lie", UndoTest::some, x -> x.lie(2, 0));
        CHECKS.throwsArgument("lie 3", UndoTest::some, x -> x.lie(0, 3));
        CHECKS.throwsState("seek", UndoTest::some, x -> x.seek(0));
        CHECKS.throwsArgument("seek by 3", UndoTest::some, x -> x.seek(3));
        CHECKS.throwsArgument("trust", UndoTest::some, x -> x.trust(2));
    }

    private static void undoNothingDifferent() {
        remembered("the same weight", x -> x.weigh(0, 3));
        remembered("away as before", x -> x.away(1, true));
        remembered("there as before", x -> x.away(0, false));
        remembered("a fence that stands", x -> x.fence(2, true));
        remembered("no fence as before", x -> x.fence(3, false));
        remembered("the same lie", x -> x.lie(0, 0));
        remembered("the same sums", FencedRows::tell);
        remembered("the same setting", x -> x.trust(1));
    }

    private static void undoIsNone() {
        FencedRows x = some();
        CHECKS.is("the first", x.undo(), 3);
        CHECKS.is("the second", x.undo(), 2);
        CHECKS.is("the third", x.undo(), 1);
        CHECKS.is("the fourth", x.undo(), 0);
        CHECKS.same("a fifth", Checks.thrown(x, FencedRows::undo), STATE);
        CHECKS.same("the state is that of a new object", Checks.seen(x), Checks.seen(new FencedRows()));
    }

    private static void undoBefore() {
        FencedRows x = new FencedRows();
        for (int w = 2; w <= 9; w++) {
            x.weigh(0, w);
        }
        for (int w = 8; w >= 1; w--) {
            x.undo();
            CHECKS.is("the weight ahead of an action", x.rowOf(0, 0), w);
        }
    }

    /** An object with so many actions, each of which makes row 0 weigh 1 more. */
    private static FencedRows heavier(int actions) {
        FencedRows x = new FencedRows();
        for (int i = 1; i <= actions; i++) {
            x.weigh(0, 1 + i);
        }
        return x;
    }

    private static void undoAtMost14() {
        for (int actions : new int[] {1, 13, 14, 15, 16, 27, 28, 29, 42, 43, 90}) {
            FencedRows x = heavier(actions);
            int states = Math.min(14, actions);
            for (int i = 1; i <= states; i++) {
                CHECKS.is("still remembered of " + actions, x.undo(), states - i);
                CHECKS.is("the weight then", x.rowOf(0, 0), 1 + actions - i);
            }
            CHECKS.same("one more of " + actions, Checks.thrown(x, FencedRows::undo), STATE);
        }
        FencedRows x = heavier(14);
        for (int i = 0; i < 5; i++) {
            x.undo();
        }
        for (int i = 0; i < 6; i++) {
            x.weigh(1, 50 + i);
        }
        CHECKS.is("five taken back and six made", x.undo(), 13);
        for (int i = 12; i >= 0; i--) {
            CHECKS.is("taken back further", x.undo(), i);
        }
        CHECKS.is("the oldest one was forgotten", x.rowOf(0, 0), 2);
    }

    private static void undoLoadAndRestore() {
        FencedRows loaded = Meadows.loaded("Ma01a02nk0");
        CHECKS.same("behind load", Checks.thrown(loaded, FencedRows::undo), STATE);
        FencedRows x = some();
        x.save(0);
        x.restore(0);
        CHECKS.same("behind restore", Checks.thrown(x, FencedRows::undo), STATE);
    }

    // ---- The face

    private static void faceNone() {
        CHECKS.is("NONE", FencedRows.NONE, -1);
        CHECKS.answers("a meadow", () -> Meadows.typed("M"), FencedRows::errorPosition, FencedRows.NONE);
        CHECKS.answers("no best way", FencedRows::new, FencedRows::bestWay, FencedRows.NONE);
        CHECKS.answers("no block is doubted", FencedRows::new, FencedRows::farthest, FencedRows.NONE);
        CHECKS.answers("no command fails", FencedRows::new, x -> x.runScript(1, 40000L), FencedRows.NONE);
    }

    private static void faceText() {
        FencedRows x = Meadows.lived();
        x.append('x');
        x.errorPosition();
        x.clearText();
        CHECKS.same("the state", Checks.seen(x), Checks.seen(Meadows.lived()));
        CHECKS.is("no action", x.undo(), 11);
        CHECKS.is("slot 0", x.restore(0) + x.about(9), 3 + 1);
        CHECKS.throwsNothing("load", () -> Meadows.typed("M"), FencedRows::load);
    }

    private static void faceWhatThereIs() {
        for (int what = 0; what <= 10; what++) {
            int w = what;
            CHECKS.keeps("about(" + what + ")", Meadows::lived, x -> x.about(w));
        }
        for (int what = 0; what <= 4; what++) {
            int w = what;
            CHECKS.keeps("rowOf(1, " + what + ")", Meadows::lived, x -> x.rowOf(1, w));
        }
        for (int what = 0; what <= 5; what++) {
            int w = what;
            CHECKS.keeps("blockOf(1, " + what + ")", Meadows::lived, x -> x.blockOf(1, w));
        }
        CHECKS.answers("the text behind about", Meadows::lived, x -> x.about(0) * 0 + x.clearText(), 13);
        CHECKS.answers("the text behind rowOf", Meadows::lived, x -> x.rowOf(0, 0) * 0 + x.clearText(), 13);
        CHECKS.answers("the text behind blockOf", Meadows::lived, x -> x.blockOf(0, 0) * 0 + x.clearText(), 13);
        FencedRows x = Meadows.lived();
        CHECKS.is("row 3 was taken wrongly", x.about(7), 1);
        CHECKS.is("row 35 was missed", x.about(8), 1);
        CHECKS.is("block 0 lies", x.blockOf(0, 4), -1);
        CHECKS.is("its sum is out of date", x.blockOf(0, 5) - x.blockOf(0, 3), 1);
    }

    private static void faceChangeNothing() {
        for (int way = 0; way <= 2; way++) {
            int w = way;
            CHECKS.keeps("ifSought by " + way, Meadows::lived, x -> x.ifSought(w, 1));
            CHECKS.keeps("looks by " + way, Meadows::lived, x -> x.looks(0, w, 1));
        }
        CHECKS.keeps("bestWay", Meadows::lived, FencedRows::bestWay);
        CHECKS.keeps("leastLooks", Meadows::lived, x -> x.leastLooks(2));
        CHECKS.keeps("balanced", Meadows::lived, x -> x.balanced(3));
        CHECKS.keeps("canBe", Meadows::lived, x -> x.canBe(1));
        CHECKS.keeps("farthest", Meadows::lived, FencedRows::farthest);
        CHECKS.keeps("runScript", Meadows::lived, x -> x.runScript(3, 101014000050002L));
        CHECKS.keeps("simulate", Meadows::lived, x -> x.simulate(3L, 60));
    }

    private static void faceScripts() {
        for (int group : new int[] {10001, 20201, 30004, 40000, 50001, 60000, 70001, 80001, 90000}) {
            CHECKS.keeps("runScript of " + group, Meadows::lived, x -> x.runScript(1, group));
        }
        for (long seed = 0; seed < 10; seed++) {
            long s = seed;
            CHECKS.keeps("simulate by " + seed, Meadows::lived, x -> x.simulate(s, 40));
        }
    }

    private static void faceSlots() {
        FencedRows x = some();
        x.save(1);
        CHECKS.same("the state behind save", Checks.seen(x), Checks.seen(some()));
        CHECKS.is("save is no action", x.undo(), 3);
        CHECKS.is("restore", x.restore(1), 2);
    }

    // ---- promise 17

    private static void promise17Last() {
        FencedRows x = some();
        x.undo();
        CHECKS.is("the row is back", x.about(1), 0);
        x.undo();
        CHECKS.is("row 1 weighs 1 again", x.rowOf(1, 0), 1);
        x.undo();
        CHECKS.is("row 0 weighs 1 again", x.rowOf(0, 0), 1);
        x.weigh(7, 70);
        x.undo();
        CHECKS.is("another action instead", x.rowOf(7, 0), 1);
        x.undo();
        CHECKS.is("the fence is gone", x.about(0), 1);
    }

    private static void promise17HowMany() {
        FencedRows x = heavier(20);
        for (int i = 13; i >= 0; i--) {
            CHECKS.is("of twenty", x.undo(), i);
        }
        CHECKS.answers("of one", () -> heavier(1), FencedRows::undo, 0);
        CHECKS.answers("of two", () -> heavier(2), FencedRows::undo, 1);
    }

    private static void promise17None() {
        CHECKS.throwsState("of a new object", FencedRows::new, FencedRows::undo);
        CHECKS.throwsState("behind load", () -> Meadows.loaded("Ma01"), FencedRows::undo);
        CHECKS.throwsState("behind restore", () -> {
            FencedRows x = Meadows.lived();
            x.restore(0);
            return x;
        }, FencedRows::undo);
        CHECKS.throwsState("behind all were taken back", () -> {
            FencedRows x = heavier(14);
            for (int i = 0; i < 14; i++) {
                x.undo();
            }
            return x;
        }, FencedRows::undo);
        CHECKS.throwsState("fourteen of fifteen were taken back", () -> {
            FencedRows x = heavier(15);
            for (int i = 0; i < 14; i++) {
                x.undo();
            }
            return x;
        }, FencedRows::undo);
    }
}
