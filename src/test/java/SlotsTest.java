/** Promises 27 and 28. */
public final class SlotsTest {
    private static final Checks CHECKS = new Checks();
    private static final int[] NO_SLOTS = {-1, 2, Integer.MIN_VALUE, Integer.MAX_VALUE};

    public static void main(String[] args) {
        promise27Save();
        promise28Restore();
        promise28Forgets();
        promise28Throws();
        CHECKS.end();
    }

    private static FencedRows meadow() {
        FencedRows x = new FencedRows();
        x.fence(4, true);
        x.fence(30, true);
        x.weigh(3, 2);
        x.away(1, true);
        x.lie(0, -1);
        x.tell();
        x.seek(2);
        x.away(2, true);
        x.trust(0);
        return x;
    }

    private static void promise27Save() {
        FencedRows x = meadow();
        Object before = Checks.seen(x);
        CHECKS.is("27: the blocks", x.save(0), 3);
        CHECKS.same("27: changes nothing else", Checks.seen(x), before);
        CHECKS.is("27: is not remembered", x.undo(), 8);
        CHECKS.is("27: of a new object", new FencedRows().save(1), 1);
        for (int slot : NO_SLOTS) {
            CHECKS.throwsIndex("27: slot " + slot, x, () -> x.save(slot));
        }
    }

    private static void promise28Restore() {
        FencedRows x = meadow();
        Object first = Checks.seen(x);
        x.save(0);
        x.weigh(3, 5);
        x.spread(7);
        x.trust(1);
        x.tell();
        x.seek(1);
        Object second = Checks.seen(x);
        x.save(1);
        x.away(40, true);
        x.fence(1, true);
        CHECKS.is("28: the blocks of slot 0", x.restore(0), 3);
        CHECKS.same("28: the state of slot 0", Checks.seen(x), first);
        x.away(20, true);
        CHECKS.is("28: the blocks of slot 1", x.restore(1), 8);
        CHECKS.same("28: the state of slot 1", Checks.seen(x), second);
        CHECKS.is("28: the slot keeps it", x.restore(0), 3);
        CHECKS.same("28: as it was", Checks.seen(x), first);
        x.fence(10, true);
        CHECKS.is("28: saved over", x.save(0), 4);
        x.spread(1);
        CHECKS.is("28: the newer one", x.restore(0), 4);
        Checks.type(x, "Mn");
        x.restore(0);
        CHECKS.is("28: the text is kept", x.clearText(), 2);
    }

    private static void promise28Forgets() {
        FencedRows x = meadow();
        x.save(0);
        x.away(7, true);
        x.restore(0);
        CHECKS.throwsState("28: forgets what is remembered", x, x::undo);
        x.away(7, true);
        CHECKS.is("28: restore is no action", x.undo(), 0);
        CHECKS.is("28: undo leads back to it", x.rowOf(7, 1), 0);
        x.away(8, true);
        x.undo();
        CHECKS.is("28: undo leaves the slots", x.restore(0), 3);
    }

    private static void promise28Throws() {
        FencedRows x = meadow();
        for (int slot : NO_SLOTS) {
            CHECKS.throwsIndex("28: slot " + slot, x, () -> x.restore(slot));
        }
        CHECKS.throwsState("28: nothing in slot 0", x, () -> x.restore(0));
        x.save(0);
        CHECKS.throwsState("28: nothing in slot 1", x, () -> x.restore(1));
        CHECKS.is("28: still remembered behind a call that throws", x.undo(), 8);
        x.append('M');
        x.load();
        CHECKS.throwsState("28: nothing in slot 0 since the load", x, () -> x.restore(0));
        x.save(1);
        CHECKS.is("28: saved since the load", x.restore(1), 1);
    }
}
