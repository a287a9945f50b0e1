import java.util.List;

/** Promises 27 and 28. */
public final class SlotsTest {
    static final List<String> SECTIONS = List.of("Promise 27", "Promise 28");

    private static final Checks CHECKS = new Checks();
    private static final int[] NO_SLOTS = {-1, 2, Integer.MIN_VALUE, Integer.MAX_VALUE};
    private static final String STATE = IllegalStateException.class.getName();

    public static void main(String[] args) throws Exception {
        Sentences s = new Sentences(CHECKS, SECTIONS);
        s.in("Promise 27");
        s.holds("Stores the present state in a save slot.", SlotsTest::promise27Stores);
        s.holds("slot: 0 or 1", SlotsTest::promise27Slots);
        s.holds("Returns the blocks.", SlotsTest::promise27Blocks);
        s.holds("Throws IndexOutOfBoundsException if there is no such save slot", SlotsTest::promise27NoSlot);
        s.in("Promise 28");
        s.holds("Replaces the state by the one in a save slot", SlotsTest::promise28Replaces);
        s.holds("and forgets all remembered states.", SlotsTest::promise28Forgets);
        s.holds("The save slot keeps it.", SlotsTest::promise28Keeps);
        s.holds("slot: 0 or 1", SlotsTest::promise28Slots);
        s.holds("Returns the blocks then.", SlotsTest::promise28Blocks);
        s.holds("Throws IndexOutOfBoundsException if there is no such save slot", SlotsTest::promise28NoSlot);
        s.holds("Throws IllegalStateException if nothing has been saved in it", SlotsTest::promise28NothingSaved);
        s.holds("since the last load", SlotsTest::promise28SinceTheLoad);
        s.end();
    }

    /** Another meadow than lived(), with five blocks. */
    private static FencedRows other() {
        FencedRows x = Meadows.typed("Ma03");
        x.spread(4);
        x.weigh(47, 99);
        x.away(10, true);
        x.lie(0, -2);
        x.lie(4, 2);
        x.tell();
        x.seek(1);
        return x;
    }

    private static void promise27Stores() {
        FencedRows x = Meadows.lived();
        Object due = Checks.seen(Meadows.lived());
        x.save(1);
        x.spread(9);
        x.trust(1);
        x.tell();
        x.seek(0);
        x.restore(1);
        CHECKS.same("the state that was saved", Checks.seen(x), due);
        FencedRows again = other();
        again.save(0);
        again.weigh(0, 50);
        again.save(0);
        again.weigh(0, 60);
        again.restore(0);
        CHECKS.is("of two in one slot the later", again.rowOf(0, 0), 50);
        FencedRows y = other();
        y.save(0);
        CHECKS.same("the present state stays", Checks.seen(y), Checks.seen(other()));
        CHECKS.is("also a lie", y.blockOf(0, 4), -2);
        CHECKS.is("it is no action", y.undo(), 6);
    }

    private static void promise27Slots() {
        FencedRows x = new FencedRows();
        x.weigh(0, 10);
        x.save(0);
        x.weigh(0, 20);
        x.save(1);
        x.restore(0);
        CHECKS.is("slot 0", x.rowOf(0, 0), 10);
        x.restore(1);
        CHECKS.is("slot 1", x.rowOf(0, 0), 20);
    }

    private static void promise27Blocks() {
        CHECKS.answers("of a new object", FencedRows::new, x -> x.save(1), 1);
        CHECKS.answers("of three", Meadows::lived, x -> x.save(0), 3);
        CHECKS.answers("of twelve", Meadows::fullOfFences, x -> x.save(0), 12);
    }

    private static void promise27NoSlot() {
        for (int slot : NO_SLOTS) {
            CHECKS.throwsIndex("slot " + slot, Meadows::lived, x -> x.save(slot));
            CHECKS.throwsIndex("slot " + slot + " of a new object", FencedRows::new, x -> x.save(slot));
        }
    }

    private static void promise28Replaces() {
        FencedRows y = other();
        y.save(1);
        y.trust(0);
        y.fence(1, true);
        y.away(3, true);
        y.seek(2);
        CHECKS.is("blocks", y.restore(1), 5);
        CHECKS.same("everything", Checks.seen(y), Checks.seen(other()));
        FencedRows texts = other();
        texts.save(0);
        texts.append('n');
        texts.restore(0);
        CHECKS.is("but the text", texts.clearText(), 5);
        FencedRows told = new FencedRows();
        told.save(0);
        told.tell();
        told.restore(0);
        CHECKS.is("no sums were told", told.about(4), 0);
        CHECKS.same("nor can be asked", Checks.thrown(told, z -> z.blockOf(0, 5)), STATE);
    }

    private static void promise28Forgets() {
        FencedRows x = other();
        x.save(0);
        x.away(7, true);
        x.restore(0);
        CHECKS.same("none is remembered", Checks.thrown(x, FencedRows::undo), STATE);
        x.away(7, true);
        CHECKS.is("the next action is", x.undo(), 0);
        CHECKS.is("undo leads back to what was restored", x.rowOf(7, 1), 0);
        FencedRows full = new FencedRows();
        for (int i = 0; i < 14; i++) {
            full.away(i, true);
        }
        full.save(1);
        full.restore(1);
        CHECKS.same("none of fourteen", Checks.thrown(full, FencedRows::undo), STATE);
        for (int i = 0; i < 15; i++) {
            full.weigh(0, 10 + i);
        }
        for (int i = 13; i >= 0; i--) {
            CHECKS.is("fourteen again", full.undo(), i);
        }
    }

    private static void promise28Keeps() {
        FencedRows x = new FencedRows();
        x.weigh(0, 10);
        x.save(0);
        for (int i = 0; i < 3; i++) {
            x.weigh(0, 20 + i);
            x.restore(0);
            CHECKS.is("time " + i, x.rowOf(0, 0), 10);
        }
        x.weigh(0, 30);
        x.undo();
        x.restore(0);
        CHECKS.is("behind an undo", x.rowOf(0, 0), 10);
        x.simulate(3L, 60);
        x.runScript(1, 10001L);
        x.restore(0);
        CHECKS.is("behind a simulation", x.rowOf(0, 0), 10);
    }

    private static void promise28Slots() {
        CHECKS.answers("slot 0", Meadows::lived, x -> x.restore(0) * 0 + x.about(9), 1);
        CHECKS.answers("slot 1", Meadows::lived, x -> x.restore(1) * 0 + x.about(9), 0);
        CHECKS.answers("one and the other", Meadows::lived, x -> x.restore(1) + x.restore(0) + x.about(9), 3 + 3 + 1);
    }

    private static void promise28Blocks() {
        FencedRows x = other();
        x.save(0);
        x.fence(1, true);
        x.save(1);
        x.spread(11);
        CHECKS.is("slot 0", x.restore(0), 5);
        CHECKS.is("slot 1", x.restore(1), 6);
        CHECKS.is("as about tells", x.about(0), 6);
    }

    private static void promise28NoSlot() {
        for (int slot : NO_SLOTS) {
            CHECKS.throwsIndex("slot " + slot, Meadows::lived, x -> x.restore(slot));
            CHECKS.throwsIndex("slot " + slot + " of a new object", FencedRows::new, x -> x.restore(slot));
        }
    }

    private static void promise28NothingSaved() {
        CHECKS.throwsState("in slot 0", SlotsTest::other, x -> x.restore(0));
        CHECKS.throwsState("in slot 1", SlotsTest::other, x -> x.restore(1));
        CHECKS.throwsState("in slot 1, but in slot 0", () -> {
            FencedRows x = other();
            x.save(0);
            return x;
        }, x -> x.restore(1));
        CHECKS.throwsState("in slot 0, but in slot 1", () -> {
            FencedRows x = other();
            x.save(1);
            return x;
        }, x -> x.restore(0));
    }

    private static void promise28SinceTheLoad() {
        for (int slot = 0; slot <= 1; slot++) {
            int s = slot;
            CHECKS.throwsState("slot " + slot, () -> {
                FencedRows x = Meadows.lived();
                x.load();
                return x;
            }, x -> x.restore(s));
            FencedRows x = Meadows.lived();
            x.load();
            x.save(slot);
            CHECKS.is("saved in slot " + slot + " since then", x.restore(slot), 3);
            FencedRows failed = Meadows.lived();
            failed.append('x');
            CHECKS.same("a load that throws", Checks.thrown(failed, FencedRows::load), STATE);
            CHECKS.is("leaves slot " + slot, failed.restore(slot), 3);
        }
    }
}
