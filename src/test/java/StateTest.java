/** Promises 1, 6, 7 and 8. */
public final class StateTest {
    private static final Checks CHECKS = new Checks();

    public static void main(String[] args) {
        promise1New();
        promise6About();
        promise6Throws();
        promise7RowOf();
        promise7Throws();
        promise8BlockOf();
        promise8Throws();
        CHECKS.end();
    }

    private static void promise1New() {
        FencedRows x = new FencedRows();
        CHECKS.is("1: NONE", FencedRows.NONE, -1);
        int[] due = {1, 0, 48, 48, 0, 0, 0, 0, 0, 1, 0};
        for (int what = 0; what < due.length; what++) {
            CHECKS.is("1: about(" + what + ")", x.about(what), due[what]);
        }
        for (int r = 0; r < 48; r++) {
            CHECKS.is("1: weight of " + r, x.rowOf(r, 0), 1);
            for (int what = 1; what <= 4; what++) {
                CHECKS.is("1: rowOf(" + r + ", " + what + ")", x.rowOf(r, what), 0);
            }
        }
        int[] block = {0, 48, 48, 48, 0};
        for (int what = 0; what < block.length; what++) {
            CHECKS.is("1: blockOf(0, " + what + ")", x.blockOf(0, what), block[what]);
        }
        CHECKS.throwsState("1: nothing to undo", x, x::undo);
        CHECKS.throwsState("1: slot 0 is empty", x, () -> x.restore(0));
        CHECKS.throwsState("1: slot 1 is empty", x, () -> x.restore(1));
        CHECKS.is("1: the text is empty", x.clearText(), 0);
        FencedRows other = new FencedRows();
        other.away(0, true);
        CHECKS.is("1: objects share nothing", x.about(1), 0);
    }

    /** Rows 0 to 3 weigh 1, 1, 1 and 2 in a block of their own. */
    private static FencedRows fourRows() {
        FencedRows x = new FencedRows();
        x.fence(4, true);
        x.weigh(3, 2);
        return x;
    }

    private static void promise6About() {
        FencedRows x = fourRows();
        x.weigh(20, 50);
        x.away(20, true);
        x.away(1, true);
        CHECKS.is("6: blocks", x.about(0), 2);
        CHECKS.is("6: rows that are away", x.about(1), 2);
        CHECKS.is("6: book", x.about(2), 48 + 1 + 49);
        CHECKS.is("6: field", x.about(3), 48 + 1 - 2);
        CHECKS.is("6: no sums told", x.about(4), 0);
        x.tell();
        CHECKS.is("6: sums told", x.about(4), 1);
        x.away(20, false);
        x.away(30, true);
        int first = x.seek(0);
        CHECKS.is("6: looks", x.about(5), first);
        int taken = x.about(6);
        int wrong = x.about(7);
        int missed = x.about(8);
        int counted = 0;
        int wrongly = 0;
        for (int r = 0; r < 48; r++) {
            counted += x.rowOf(r, 4);
            wrongly += x.rowOf(r, 4) * (1 - x.rowOf(r, 1));
        }
        CHECKS.is("6: taken", taken, counted);
        CHECKS.is("6: taken wrongly", wrong, wrongly);
        CHECKS.is("6: missed", missed, 2 - (counted - wrongly));
        CHECKS.is("6: losses", x.about(10), counted);
        x.away(1, false);
        x.away(40, true);
        x.away(41, true);
        CHECKS.is("6: 7 by who was away then", x.about(7), wrong);
        CHECKS.is("6: 8 by who was away then", x.about(8), missed);
        x.ifSought(2, 0);
        CHECKS.is("6: ifSought is no search", x.about(5), first);
        int second = x.seek(1);
        CHECKS.is("6: looks of two searches", x.about(5), first + second);
        CHECKS.is("6: losses of two searches", x.about(10), counted + x.about(6));
        x.trust(0);
        CHECKS.is("6: setting 0", x.about(9), 0);
    }

    private static void promise6Throws() {
        FencedRows x = fourRows();
        for (int wrong : new int[] {-1, 11, Integer.MIN_VALUE, Integer.MAX_VALUE}) {
            CHECKS.throwsArgument("6: about(" + wrong + ")", x, () -> x.about(wrong));
        }
    }

    private static void promise7RowOf() {
        FencedRows x = fourRows();
        x.fence(47, true);
        x.fence(1, true);
        x.away(0, true);
        x.away(47, true);
        x.weigh(47, 99);
        CHECKS.is("7: weight", x.rowOf(47, 0), 99);
        CHECKS.is("7: away", x.rowOf(47, 1), 1);
        CHECKS.is("7: there", x.rowOf(46, 1), 0);
        int[] rows = {0, 1, 3, 4, 46, 47};
        int[] blocks = {0, 1, 1, 2, 2, 3};
        for (int i = 0; i < rows.length; i++) {
            CHECKS.is("7: block of " + rows[i], x.rowOf(rows[i], 3), blocks[i]);
        }
        x.tell();
        x.seek(0);
        CHECKS.is("7: first row taken", x.rowOf(0, 4), 1);
        CHECKS.is("7: last row taken", x.rowOf(47, 4), 1);
        CHECKS.is("7: another not", x.rowOf(1, 4), 0);
        x.away(0, false);
        x.tell();
        x.seek(0);
        CHECKS.is("7: only the latest search", x.rowOf(0, 4), 0);
        CHECKS.is("7: its loss stays", x.rowOf(0, 2), 1);
        CHECKS.is("7: losses add up", x.rowOf(47, 2), 2);
    }

    private static void promise7Throws() {
        FencedRows x = fourRows();
        for (int wrong : new int[] {-1, 48, Integer.MIN_VALUE, Integer.MAX_VALUE}) {
            CHECKS.throwsIndex("7: row " + wrong, x, () -> x.rowOf(wrong, 0));
            CHECKS.throwsIndex("7: row " + wrong + ", and no such number", x, () -> x.rowOf(wrong, 5));
        }
        for (int wrong : new int[] {-1, 5, Integer.MIN_VALUE, Integer.MAX_VALUE}) {
            CHECKS.throwsArgument("7: number " + wrong, x, () -> x.rowOf(47, wrong));
        }
    }

    private static void promise8BlockOf() {
        FencedRows x = fourRows();
        x.fence(46, true);
        x.away(3, true);
        x.lie(0, -2);
        x.lie(2, 2);
        int[][] due = {{0, 4, 5, 3, -2}, {4, 42, 42, 42, 0}, {46, 2, 2, 2, 2}};
        for (int k = 0; k < 3; k++) {
            for (int what = 0; what < 5; what++) {
                CHECKS.is("8: blockOf(" + k + ", " + what + ")", x.blockOf(k, what), due[k][what]);
            }
        }
        x.tell();
        CHECKS.is("8: a sum and a lie below 0", x.blockOf(0, 5), 1);
        CHECKS.is("8: a sum", x.blockOf(1, 5), 42);
        CHECKS.is("8: a sum and a lie above 0", x.blockOf(2, 5), 4);
        x.away(0, true);
        x.weigh(1, 7);
        x.lie(0, 0);
        CHECKS.is("8: a sum stays as it was told", x.blockOf(0, 5), 1);
        CHECKS.is("8: the field does not", x.blockOf(0, 3), 8);
        x.away(1, true);
        x.away(2, true);
        x.lie(0, -2);
        x.tell();
        CHECKS.is("8: a sum below 0", x.blockOf(0, 5), -2);
        CHECKS.is("8: the field of a block that is away", x.blockOf(0, 3), 0);
    }

    private static void promise8Throws() {
        FencedRows x = fourRows();
        for (int wrong : new int[] {-1, 2, 11, 12, Integer.MIN_VALUE, Integer.MAX_VALUE}) {
            CHECKS.throwsIndex("8: block " + wrong, x, () -> x.blockOf(wrong, 0));
            CHECKS.throwsIndex("8: block " + wrong + ", and no such number", x, () -> x.blockOf(wrong, 6));
            CHECKS.throwsIndex("8: block " + wrong + ", and no sums", x, () -> x.blockOf(wrong, 5));
        }
        for (int wrong : new int[] {-1, 6, Integer.MIN_VALUE, Integer.MAX_VALUE}) {
            CHECKS.throwsArgument("8: number " + wrong, x, () -> x.blockOf(1, wrong));
        }
        CHECKS.throwsState("8: no sums are told", x, () -> x.blockOf(1, 5));
        x.tell();
        CHECKS.is("8: sums are told", x.blockOf(1, 5), 44);
        x.fence(5, true);
        CHECKS.throwsState("8: no sums any more", x, () -> x.blockOf(1, 5));
    }
}
