/** Promises 9 to 17. */
public final class ActionsTest {
    private static final Checks CHECKS = new Checks();

    public static void main(String[] args) {
        promise9Weigh();
        promise10Away();
        promise11Fence();
        promise11ForgetsSums();
        promise12Spread();
        promise12Throws();
        promise13Lie();
        promise14Tell();
        promise15Halves();
        promise15Lies();
        promise15OutOfDate();
        promise15Ways();
        promise15Untrusted();
        promise15Losses();
        promise15Throws();
        promise16Trust();
        promise17Undo();
        promise17EachAction();
        promise17Forgets();
        CHECKS.end();
    }

    private static final int[] NO_ROWS = {-1, 48, 100, Integer.MIN_VALUE, Integer.MAX_VALUE};

    private static void promise9Weigh() {
        FencedRows x = new FencedRows();
        CHECKS.is("9: the first weight", x.weigh(0, 99), 1);
        CHECKS.is("9: the previous", x.weigh(0, 1), 99);
        CHECKS.is("9: the last row", x.weigh(47, 50), 1);
        CHECKS.is("9: it weighs", x.rowOf(47, 0), 50);
        x.tell();
        x.weigh(5, 9);
        CHECKS.is("9: sums stay", x.blockOf(0, 5), 97);
        for (int r : NO_ROWS) {
            CHECKS.throwsIndex("9: row " + r, x, () -> x.weigh(r, 1));
            CHECKS.throwsIndex("9: row " + r + ", and no such weight", x, () -> x.weigh(r, 0));
        }
        for (int w : new int[] {0, 100, -1, Integer.MIN_VALUE, Integer.MAX_VALUE}) {
            CHECKS.throwsArgument("9: weight " + w, x, () -> x.weigh(3, w));
        }
    }

    private static void promise10Away() {
        FencedRows x = new FencedRows();
        CHECKS.is("10: the first", x.away(0, true), 1);
        CHECKS.is("10: again", x.away(0, true), 1);
        CHECKS.is("10: the last", x.away(47, true), 2);
        CHECKS.is("10: one that is there comes back", x.away(5, false), 2);
        CHECKS.is("10: one comes back", x.away(0, false), 1);
        CHECKS.is("10: it is there", x.rowOf(0, 1), 0);
        CHECKS.is("10: the other is not", x.rowOf(47, 1), 1);
        for (int r : NO_ROWS) {
            CHECKS.throwsIndex("10: row " + r, x, () -> x.away(r, true));
            CHECKS.throwsIndex("10: row " + r + " back", x, () -> x.away(r, false));
        }
    }

    private static void promise11Fence() {
        FencedRows x = new FencedRows();
        CHECKS.is("11: at 1", x.fence(1, true), 2);
        CHECKS.is("11: at 47", x.fence(47, true), 3);
        CHECKS.is("11: again", x.fence(47, true), 3);
        CHECKS.is("11: none to take", x.fence(30, false), 3);
        CHECKS.is("11: taken", x.fence(1, false), 2);
        CHECKS.is("11: the blocks", x.blockOf(1, 0), 47);
        for (int r : new int[] {0, -1, 48, Integer.MIN_VALUE, Integer.MAX_VALUE}) {
            CHECKS.throwsIndex("11: place " + r, x, () -> x.fence(r, true));
            CHECKS.throwsIndex("11: place " + r + " taken", x, () -> x.fence(r, false));
        }
        for (int r = 10; r < 20; r++) {
            CHECKS.is("11: at " + r, x.fence(r, true), r - 10 + 3);
        }
        CHECKS.throwsState("11: the twelfth", x, () -> x.fence(20, true));
        CHECKS.throwsIndex("11: the twelfth, nowhere", x, () -> x.fence(48, true));
        CHECKS.is("11: one that is there is no twelfth", x.fence(47, true), 12);
        CHECKS.is("11: with eleven, none to take", x.fence(20, false), 12);
        CHECKS.is("11: with eleven, taken", x.fence(10, false), 11);
        CHECKS.is("11: room again", x.fence(20, true), 12);
    }

    private static FencedRows twoLyingBlocks() {
        FencedRows x = new FencedRows();
        x.fence(24, true);
        x.lie(0, 2);
        x.lie(1, -1);
        x.tell();
        return x;
    }

    private static void promise11ForgetsSums() {
        FencedRows put = twoLyingBlocks();
        put.fence(40, true);
        CHECKS.is("11: a fence that comes forgets sums", put.about(4), 0);
        CHECKS.is("11: and the lie of 0", put.blockOf(0, 4), 0);
        CHECKS.is("11: and the lie of 1", put.blockOf(1, 4), 0);
        FencedRows taken = twoLyingBlocks();
        taken.fence(24, false);
        CHECKS.is("11: a fence that goes forgets sums", taken.about(4), 0);
        taken.fence(24, true);
        CHECKS.is("11: and all lies", taken.blockOf(0, 4) + 10 * taken.blockOf(1, 4), 0);
        FencedRows same = twoLyingBlocks();
        same.fence(24, true);
        same.fence(25, false);
        CHECKS.is("11: a fence that stays keeps sums", same.about(4), 1);
        CHECKS.is("11: and lies", same.blockOf(0, 4), 2);
        CHECKS.is("11: and the sums as told", same.blockOf(1, 5), 23);
    }

    private static void promise12Spread() {
        FencedRows x = new FencedRows();
        x.fence(5, true);
        CHECKS.is("12: one fence", x.spread(1), 2);
        CHECKS.is("12: in the middle", x.blockOf(1, 0), 24);
        CHECKS.is("12: eleven fences", x.spread(11), 12);
        for (int k = 0; k < 12; k++) {
            CHECKS.is("12: block " + k, x.blockOf(k, 0), 4 * k);
        }
        CHECKS.is("12: four fences", x.spread(4), 5);
        int[] due = {0, 10, 20, 30, 40};
        for (int k = 0; k < due.length; k++) {
            CHECKS.is("12: as many rows as fit, block " + k, x.blockOf(k, 0), due[k]);
        }
        FencedRows heavy = new FencedRows();
        heavy.weigh(47, 99);
        CHECKS.is("12: fewer fences are enough", heavy.spread(11), 2);
        CHECKS.is("12: the heavy row stands alone", heavy.blockOf(1, 0), 47);
        FencedRows front = new FencedRows();
        front.weigh(0, 99);
        CHECKS.is("12: a heavy row in front", front.spread(1), 2);
        CHECKS.is("12: it stands alone too", front.blockOf(1, 0), 1);
        FencedRows same = twoLyingBlocks();
        CHECKS.is("12: as it was", same.spread(1), 2);
        CHECKS.is("12: forgets sums though", same.about(4), 0);
        CHECKS.is("12: and lies", same.blockOf(0, 4), 0);
        CHECKS.is("12: away rows weigh too", spreadWithAway(), 24);
    }

    private static int spreadWithAway() {
        FencedRows x = new FencedRows();
        for (int r = 0; r < 24; r++) {
            x.away(r, true);
        }
        x.spread(1);
        return x.blockOf(1, 0);
    }

    private static void promise12Throws() {
        FencedRows x = twoLyingBlocks();
        for (int n : new int[] {0, 12, -1, Integer.MIN_VALUE, Integer.MAX_VALUE}) {
            CHECKS.throwsArgument("12: spread(" + n + ")", x, () -> x.spread(n));
        }
    }

    private static void promise13Lie() {
        FencedRows x = new FencedRows();
        x.fence(10, true);
        x.tell();
        CHECKS.is("13: the first lie", x.lie(1, -2), 0);
        CHECKS.is("13: the previous", x.lie(1, 2), -2);
        CHECKS.is("13: it lies", x.blockOf(1, 4), 2);
        CHECKS.is("13: the other does not", x.blockOf(0, 4), 0);
        CHECKS.is("13: a told sum stays", x.blockOf(1, 5), 38);
        for (int k : new int[] {-1, 2, 11, 12, Integer.MIN_VALUE, Integer.MAX_VALUE}) {
            CHECKS.throwsIndex("13: block " + k, x, () -> x.lie(k, 0));
            CHECKS.throwsIndex("13: block " + k + ", and no such lie", x, () -> x.lie(k, 3));
        }
        for (int v : new int[] {-3, 3, Integer.MIN_VALUE, Integer.MAX_VALUE}) {
            CHECKS.throwsArgument("13: lie " + v, x, () -> x.lie(0, v));
        }
        FencedRows twelve = new FencedRows();
        twelve.spread(11);
        CHECKS.is("13: block 11", twelve.lie(11, 1), 0);
        CHECKS.is("13: block 11 lies", twelve.blockOf(11, 4), 1);
    }

    private static void promise14Tell() {
        FencedRows x = new FencedRows();
        CHECKS.is("14: all are there", x.tell(), 48);
        x.fence(2, true);
        x.weigh(5, 20);
        x.away(4, true);
        CHECKS.is("14: two blocks", x.tell(), 48 + 19 - 1);
        x.lie(1, 2);
        CHECKS.is("14: with a lie", x.tell(), 48 + 19 - 1 + 2);
        CHECKS.is("14: of its block", x.blockOf(1, 5), 46 + 19 - 1 + 2);
        x.away(0, true);
        x.away(1, true);
        x.lie(0, -2);
        x.lie(1, -2);
        CHECKS.is("14: below 0", x.tell(), -2 + 46 + 19 - 1 - 2);
        CHECKS.is("14: a block below 0", x.blockOf(0, 5), -2);
        x.fence(2, false);
        CHECKS.is("14: fewer blocks than were told before", x.tell(), 46 + 19 - 1);
        FencedRows none = new FencedRows();
        for (int r = 0; r < 48; r++) {
            none.away(r, true);
        }
        none.lie(0, -2);
        CHECKS.is("14: all together below 0", none.tell(), -2);
    }

    /** The rows 0 to 3 that were taken, as a number of bits; -1 if others were, too. */
    private static int taken(FencedRows x) {
        int bits = 0;
        for (int r = 0; r < 4; r++) {
            bits += x.rowOf(r, 4) << r;
        }
        return Integer.bitCount(bits) == x.about(6) ? bits : -1;
    }

    private static void seeks(String what, FencedRows x, int way, int looks, int rows) {
        CHECKS.is("15: looks, " + what, x.seek(way), looks);
        CHECKS.is("15: taken, " + what, taken(x), rows);
    }

    private static void promise15Halves() {
        FencedRows none = Checks.four(1, 1, 1, 1);
        none.tell();
        seeks("nobody away", none, 0, 0, 0);
        int[] alone = {2, 2, 2, 2};
        for (int r = 0; r < 4; r++) {
            FencedRows x = Checks.four(1, 1, 1, 1);
            x.away(r, true);
            x.tell();
            seeks("row " + r, x, 0, alone[r], 1 << r);
        }
        FencedRows left = Checks.four(1, 1, 1, 1);
        left.away(0, true);
        left.away(1, true);
        left.tell();
        seeks("a whole half", left, 0, 1, 3);
        FencedRows all = Checks.four(1, 1, 1, 1);
        for (int r = 0; r < 4; r++) {
            all.away(r, true);
        }
        all.tell();
        seeks("a whole block", all, 0, 0, 15);
        FencedRows two = Checks.four(1, 1, 1, 1);
        two.away(1, true);
        two.away(2, true);
        two.tell();
        seeks("one in each half", two, 0, 3, 6);
        FencedRows blocks = Checks.four(1, 1, 1, 1);
        blocks.fence(6, true);
        blocks.away(0, true);
        blocks.away(5, true);
        blocks.tell();
        CHECKS.is("15: looks of two blocks", blocks.seek(0), 2 + 1);
        CHECKS.is("15: found in the second", blocks.rowOf(5, 4), 1);
        CHECKS.is("15: none was missed", blocks.about(8), 0);
    }

    private static void promise15Lies() {
        FencedRows less = Checks.four(1, 1, 1, 1);
        less.lie(0, -1);
        less.tell();
        seeks("nobody, a lie of -1", less, 0, 2, 8);
        CHECKS.is("15: wrongly", less.about(7), 1);
        CHECKS.is("15: missed", less.about(8), 0);
        FencedRows more = Checks.four(1, 1, 1, 1);
        more.lie(0, 1);
        more.away(1, true);
        more.tell();
        seeks("a lie that hides it", more, 0, 0, 0);
        CHECKS.is("15: it was missed", more.about(8), 1);
        FencedRows heavy = Checks.four(1, 1, 1, 2);
        heavy.lie(0, -1);
        heavy.tell();
        seeks("a look at one row that is there", heavy, 0, 3, 0);
        FencedRows below = Checks.four(1, 1, 1, 1);
        below.lie(0, -2);
        for (int r = 0; r < 4; r++) {
            below.away(r, true);
        }
        below.tell();
        seeks("more lacking than the book", below, 0, 3, 15);
        FencedRows above = Checks.four(1, 1, 1, 1);
        above.lie(0, 2);
        above.tell();
        seeks("a sum above the book", above, 0, 0, 0);
    }

    private static void promise15OutOfDate() {
        FencedRows late = Checks.four(1, 1, 1, 1);
        late.tell();
        late.away(2, true);
        seeks("away since the telling", late, 0, 0, 0);
        CHECKS.is("15: missed since then", late.about(8), 1);
        FencedRows look = Checks.four(1, 1, 1, 2);
        look.lie(0, -1);
        look.tell();
        look.away(3, true);
        seeks("a look at one row that is away", look, 0, 3, 8);
        CHECKS.is("15: not wrongly", look.about(7), 0);
        FencedRows moved = Checks.four(1, 1, 1, 1);
        moved.away(3, true);
        moved.tell();
        moved.away(0, true);
        moved.away(1, true);
        seeks("the left has more than is lacking", moved, 0, 1, 3);
        CHECKS.is("15: the right is not searched", moved.about(8), 1);
        FencedRows weighs = Checks.four(1, 1, 1, 1);
        weighs.tell();
        weighs.weigh(2, 3);
        seeks("heavier since the telling", weighs, 0, 3, 0);
    }

    private static void promise15Ways() {
        FencedRows x = Checks.four(1, 1, 1, 9);
        x.away(3, true);
        x.tell();
        CHECKS.is("15: by rows", x.ifSought(0, 0), 2);
        CHECKS.is("15: by weights", x.ifSought(1, 0), 1);
        CHECKS.is("15: by losses, none yet", x.ifSought(2, 0), 2);
        x.seek(0);
        CHECKS.is("15: by losses, 1, 1, 1, 2", x.ifSought(2, 0), 2);
        x.seek(0);
        CHECKS.is("15: by losses, 1, 1, 1, 3", x.ifSought(2, 0), 1);
        FencedRows tie = new FencedRows();
        tie.fence(3, true);
        tie.away(0, true);
        tie.tell();
        CHECKS.is("15: of two places the least, row 0", tie.seek(0), 1);
        tie.away(0, false);
        tie.away(2, true);
        tie.tell();
        CHECKS.is("15: of two places the least, row 2", tie.seek(0), 2);
    }

    private static void promise15Untrusted() {
        FencedRows x = Checks.four(1, 1, 1, 1);
        x.trust(0);
        seeks("a look at each block", x, 0, 2, 0);
        x.away(1, true);
        seeks("and the halves", x, 0, 2 + 2, 2);
        x.lie(0, 1);
        x.tell();
        seeks("lies do not matter", x, 0, 2 + 2, 2);
        FencedRows twelve = new FencedRows();
        twelve.spread(11);
        twelve.trust(0);
        CHECKS.is("15: twelve looks at twelve blocks", twelve.seek(2), 12);
    }

    private static void promise15Losses() {
        FencedRows x = new FencedRows();
        x.away(0, true);
        x.away(47, true);
        x.trust(0);
        for (int i = 1; i <= 101; i++) {
            x.seek(0);
            CHECKS.is("15: losses of row 0", x.rowOf(0, 2), Math.min(99, i));
            CHECKS.is("15: losses of row 47", x.rowOf(47, 2), Math.min(99, i));
        }
        CHECKS.is("15: others have none", x.about(10), 2 * 99);
        FencedRows first = Checks.four(1, 1, 1, 1);
        first.away(3, true);
        first.tell();
        first.seek(2);
        CHECKS.is("15: losses come behind the search", first.about(5), 2);
    }

    private static void promise15Throws() {
        FencedRows x = Checks.four(1, 1, 1, 1);
        for (int way : new int[] {-1, 3, Integer.MIN_VALUE, Integer.MAX_VALUE}) {
            CHECKS.throwsArgument("15: way " + way + ", and no sums", x, () -> x.seek(way));
        }
        for (int way = 0; way < 3; way++) {
            int w = way;
            CHECKS.throwsState("15: no sums, way " + way, x, () -> x.seek(w));
        }
        x.trust(0);
        CHECKS.is("15: no sums, but they are not trusted", x.seek(0), 2);
        CHECKS.throwsArgument("15: way 3, untrusted", x, () -> x.seek(3));
        x.trust(1);
        x.tell();
        CHECKS.throwsArgument("15: way 3, told", x, () -> x.seek(3));
        x.fence(4, false);
        CHECKS.throwsState("15: no sums any more", x, () -> x.seek(0));
    }

    private static void promise16Trust() {
        FencedRows x = new FencedRows();
        CHECKS.is("16: at first 1", x.trust(0), 1);
        CHECKS.is("16: then 0", x.trust(0), 0);
        CHECKS.is("16: it is 0", x.about(9), 0);
        CHECKS.is("16: back", x.trust(1), 0);
        CHECKS.is("16: it is 1", x.about(9), 1);
        for (int v : new int[] {-1, 2, Integer.MIN_VALUE, Integer.MAX_VALUE}) {
            CHECKS.throwsArgument("16: trust(" + v + ")", x, () -> x.trust(v));
        }
    }

    private static void promise17Undo() {
        FencedRows x = new FencedRows();
        CHECKS.throwsState("17: nothing yet", x, x::undo);
        for (int i = 1; i <= 20; i++) {
            x.weigh(0, i);
        }
        for (int i = 1; i <= 14; i++) {
            CHECKS.is("17: still remembered", x.undo(), 14 - i);
            CHECKS.is("17: the state then", x.rowOf(0, 0), 20 - i);
        }
        CHECKS.throwsState("17: fourteen at most", x, x::undo);
        x.away(5, true);
        x.away(5, true);
        CHECKS.is("17: also if nothing becomes different", x.undo(), 1);
        CHECKS.is("17: the row is away still", x.about(1), 1);
        CHECKS.is("17: undo is no action", x.undo(), 0);
        CHECKS.is("17: the row is back", x.about(1), 0);
        CHECKS.throwsState("17: nothing more", x, x::undo);
    }

    private interface Action {
        void on(FencedRows x);
    }

    private static void undone(String what, Action action) {
        FencedRows x = Checks.four(3, 5, 7, 9);
        x.away(1, true);
        x.away(40, true);
        x.lie(0, 1);
        x.tell();
        x.seek(1);
        x.away(2, true);
        Object before = Checks.seen(x);
        action.on(x);
        CHECKS.is("17: still remembered behind " + what, x.undo(), 11);
        CHECKS.same("17: taken back, " + what, Checks.seen(x), before);
    }

    private static void promise17EachAction() {
        undone("weigh", x -> x.weigh(0, 99));
        undone("weigh as it was", x -> x.weigh(0, 3));
        undone("away", x -> x.away(0, true));
        undone("away as it was", x -> x.away(2, true));
        undone("fence", x -> x.fence(30, true));
        undone("fence taken", x -> x.fence(4, false));
        undone("fence as it was", x -> x.fence(4, true));
        undone("spread", x -> x.spread(3));
        undone("lie", x -> x.lie(1, -2));
        undone("lie as it was", x -> x.lie(1, 0));
        undone("tell", FencedRows::tell);
        undone("seek", x -> x.seek(2));
        undone("trust", x -> x.trust(0));
        undone("trust as it was", x -> x.trust(1));
    }

    /** Calls that throw, questions and slots are not remembered. */
    private static void promise17Forgets() {
        FencedRows x = Checks.four(1, 1, 1, 1);
        x.away(1, true);
        CHECKS.throwsIndex("17: a call that throws", x, () -> x.away(48, true));
        CHECKS.throwsArgument("17: another", x, () -> x.weigh(0, 0));
        CHECKS.throwsState("17: a third", x, () -> x.seek(0));
        CHECKS.throwsArgument("17: a fourth", x, () -> x.trust(2));
        CHECKS.throwsArgument("17: a fifth", x, () -> x.spread(0));
        CHECKS.throwsIndex("17: a sixth", x, () -> x.lie(9, 0));
        CHECKS.throwsIndex("17: a seventh", x, () -> x.fence(0, true));
        x.balanced(3);
        x.bestWay();
        x.simulate(5L, 60);
        x.runScript(2, 1010140000L);
        x.looks(0, 0, 0);
        x.leastLooks(0);
        x.save(0);
        x.append('M');
        x.clearText();
        CHECKS.is("17: none of them is remembered", x.undo(), 5);
        CHECKS.is("17: the last action is taken back", x.about(1), 0);
    }
}
