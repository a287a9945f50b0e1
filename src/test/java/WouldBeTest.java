/** Promises 18 to 24. */
public final class WouldBeTest {
    private static final Checks CHECKS = new Checks();
    private static final int[] NO_BLOCKS = {-1, 2, 11, 12, Integer.MIN_VALUE, Integer.MAX_VALUE};
    private static final int[] NO_WAYS = {-1, 3, Integer.MIN_VALUE, Integer.MAX_VALUE};

    public static void main(String[] args) {
        promise18IfSought();
        promise18Throws();
        promise19BestWay();
        promise20Looks();
        promise20Losses();
        promise20Throws();
        promise21LeastLooks();
        promise21NeverMore();
        promise22Balanced();
        promise22Throws();
        promise23CanBe();
        promise23Sixty4();
        promise23BelowZero();
        promise23Throws();
        promise24Farthest();
        CHECKS.end();
    }

    private static void promise18IfSought() {
        FencedRows x = Checks.four(1, 1, 1, 1);
        x.lie(0, -1);
        x.tell();
        x.away(20, true);
        Object before = Checks.seen(x);
        CHECKS.is("18: looks", x.ifSought(0, 0), 2);
        CHECKS.is("18: taken", x.ifSought(0, 1), 1);
        CHECKS.is("18: wrongly", x.ifSought(0, 2), 1);
        CHECKS.is("18: missed", x.ifSought(0, 3), 1);
        CHECKS.same("18: changes nothing", Checks.seen(x), before);
        x.tell();
        for (int way = 0; way < 3; way++) {
            int looks = x.ifSought(way, 0);
            int taken = x.ifSought(way, 1);
            int wrong = x.ifSought(way, 2);
            int missed = x.ifSought(way, 3);
            CHECKS.is("18: the looks of seek", x.seek(way), looks);
            CHECKS.is("18: those that it takes", x.about(6), taken);
            CHECKS.is("18: those that it takes wrongly", x.about(7), wrong);
            CHECKS.is("18: those that it misses", x.about(8), missed);
        }
        CHECKS.is("18: it is not remembered", x.undo(), 11);
    }

    private static void promise18Throws() {
        FencedRows x = Checks.four(1, 1, 1, 1);
        CHECKS.throwsState("18: no sums", x, () -> x.ifSought(0, 0));
        for (int way : NO_WAYS) {
            CHECKS.throwsArgument("18: way " + way + ", and no sums", x, () -> x.ifSought(way, 0));
        }
        for (int what : new int[] {-1, 4, Integer.MIN_VALUE, Integer.MAX_VALUE}) {
            CHECKS.throwsArgument("18: number " + what + ", and no sums", x, () -> x.ifSought(0, what));
        }
        x.trust(0);
        CHECKS.is("18: untrusted it needs no sums", x.ifSought(0, 0), 2);
        CHECKS.throwsArgument("18: way 3, untrusted", x, () -> x.ifSought(3, 0));
        CHECKS.throwsArgument("18: number 4, untrusted", x, () -> x.ifSought(2, 4));
    }

    private static void promise19BestWay() {
        FencedRows x = Checks.four(1, 1, 1, 9);
        CHECKS.is("19: no sums", x.bestWay(), FencedRows.NONE);
        x.away(3, true);
        x.tell();
        CHECKS.is("19: by weights", x.bestWay(), 1);
        x.weigh(3, 1);
        x.tell();
        CHECKS.is("19: of several the lowest", x.bestWay(), 0);
        x.seek(0);
        x.seek(0);
        CHECKS.is("19: by losses", x.bestWay(), 2);
        x.weigh(3, 9);
        x.tell();
        CHECKS.is("19: of 1 and 2 the lower", x.bestWay(), 1);
        x.fence(40, true);
        CHECKS.is("19: no sums any more", x.bestWay(), FencedRows.NONE);
        x.trust(0);
        CHECKS.is("19: untrusted it needs none", x.bestWay(), 1);
    }

    private static void promise20Looks() {
        FencedRows x = new FencedRows();
        for (int way = 0; way < 3; way++) {
            CHECKS.is("20: the most of 48 rows", x.looks(0, way, 0), 6);
            CHECKS.is("20: all of 48 rows", x.looks(0, way, 1), 272);
        }
        x.fence(1, true);
        x.fence(4, true);
        x.fence(8, true);
        CHECKS.is("20: one row, the most", x.looks(0, 0, 0), 0);
        CHECKS.is("20: one row, all", x.looks(0, 0, 1), 0);
        CHECKS.is("20: three rows, the most", x.looks(1, 0, 0), 2);
        CHECKS.is("20: three rows, all", x.looks(1, 0, 1), 5);
        CHECKS.is("20: four rows, the most", x.looks(2, 0, 0), 2);
        CHECKS.is("20: four rows, all", x.looks(2, 0, 1), 8);
        x.weigh(4, 9);
        CHECKS.is("20: by weights 9, 1, 1, 1, the most", x.looks(2, 1, 0), 3);
        CHECKS.is("20: by weights 9, 1, 1, 1, all", x.looks(2, 1, 1), 1 + 2 + 3 + 3);
        CHECKS.is("20: by rows as before", x.looks(2, 0, 1), 8);
        x.away(4, true);
        x.away(5, true);
        x.lie(2, -2);
        x.trust(0);
        CHECKS.is("20: who is away does not matter, nor lies, nor trust", x.looks(2, 1, 1), 9);
    }

    private static void promise20Losses() {
        FencedRows x = new FencedRows();
        x.fence(3, true);
        x.away(2, true);
        x.tell();
        x.seek(0);
        x.seek(0);
        x.seek(0);
        CHECKS.is("20: 1, 1, 4 by rows", x.looks(0, 0, 1), 1 + 2 + 2 * 4);
        CHECKS.is("20: 1, 1, 4 by weights", x.looks(0, 1, 1), 1 + 2 + 2 * 4);
        CHECKS.is("20: 1, 1, 4 by losses", x.looks(0, 2, 1), 2 + 2 + 4);
        CHECKS.is("20: the most by losses", x.looks(0, 2, 0), 2);
        CHECKS.is("20: another block has none", x.looks(1, 2, 1), x.looks(1, 0, 1));
    }

    private static void promise20Throws() {
        FencedRows x = Checks.four(1, 1, 1, 1);
        for (int k : NO_BLOCKS) {
            CHECKS.throwsIndex("20: block " + k, x, () -> x.looks(k, 0, 0));
            CHECKS.throwsIndex("20: block " + k + ", and no such way", x, () -> x.looks(k, 3, 2));
        }
        for (int way : NO_WAYS) {
            CHECKS.throwsArgument("20: way " + way, x, () -> x.looks(0, way, 0));
        }
        for (int what : new int[] {-1, 2, Integer.MIN_VALUE, Integer.MAX_VALUE}) {
            CHECKS.throwsArgument("20: number " + what, x, () -> x.looks(0, 0, what));
        }
    }

    private static void promise21LeastLooks() {
        FencedRows x = new FencedRows();
        CHECKS.is("21: 48 rows", x.leastLooks(0), 272);
        x.fence(3, true);
        CHECKS.is("21: three rows", x.leastLooks(0), 5);
        x.weigh(0, 99);
        CHECKS.is("21: weights do not matter", x.leastLooks(0), 5);
        x.away(2, true);
        x.tell();
        x.seek(0);
        x.seek(0);
        x.seek(0);
        CHECKS.is("21: losses 1, 1, 4", x.leastLooks(0), 8);
        CHECKS.is("21: where by rows it is more", x.looks(0, 0, 1), 11);
        x.fence(1, true);
        CHECKS.is("21: one row", x.leastLooks(0), 0);
        CHECKS.is("21: two rows", x.leastLooks(1), 5);
        for (int k : new int[] {-1, 3, 11, 12, Integer.MIN_VALUE, Integer.MAX_VALUE}) {
            CHECKS.throwsIndex("21: block " + k, x, () -> x.leastLooks(k));
        }
    }

    private static void promise21NeverMore() {
        FencedRows x = new FencedRows();
        x.trust(0);
        int[] losses = {1, 3, 3, 6, 7};
        x.fence(5, true);
        for (int r = 0; r < 5; r++) {
            x.away(r, true);
            for (int i = 0; i < losses[r]; i++) {
                x.seek(0);
            }
            x.away(r, false);
        }
        for (int r = 0; r < 5; r++) {
            CHECKS.is("21: losses of row " + r, x.rowOf(r, 2), losses[r]);
        }
        int best = Integer.MAX_VALUE;
        for (int m = 1; m < 5; m++) {
            best = Math.min(best, ofTwo(losses, 0, m) + ofTwo(losses, m, 5));
        }
        CHECKS.is("21: the least of all trees", x.leastLooks(0), best + 25);
        for (int way = 0; way < 3; way++) {
            CHECKS.yes("21: no way is less", x.leastLooks(0) <= x.looks(0, way, 1));
        }
    }

    private static int ofTwo(int[] losses, int from, int end) {
        if (end - from == 1) {
            return 0;
        }
        int all = 0;
        int best = Integer.MAX_VALUE;
        for (int r = from; r < end; r++) {
            all += losses[r] + 1;
        }
        for (int m = from + 1; m < end; m++) {
            best = Math.min(best, ofTwo(losses, from, m) + ofTwo(losses, m, end));
        }
        return best + all;
    }

    private static void promise22Balanced() {
        FencedRows x = new FencedRows();
        for (int n = 1; n <= 11; n++) {
            CHECKS.is("22: 48 rows of weight 1, n " + n, x.balanced(n), (48 + n) / (n + 1));
        }
        x.weigh(20, 99);
        CHECKS.is("22: a heavy row, one fence", x.balanced(1), 99 + 20);
        CHECKS.is("22: a heavy row, two fences", x.balanced(2), 99);
        CHECKS.is("22: a heavy row, eleven", x.balanced(11), 99);
        x.away(20, true);
        x.fence(3, true);
        CHECKS.is("22: who is away and where fences are does not matter", x.balanced(2), 99);
        FencedRows front = new FencedRows();
        front.weigh(0, 99);
        CHECKS.is("22: the first row is heavy", front.balanced(1), 99);
        FencedRows back = new FencedRows();
        back.weigh(47, 99);
        CHECKS.is("22: the last row is heavy", back.balanced(1), 99);
        for (int r = 0; r < 48; r++) {
            x.weigh(r, 99);
        }
        CHECKS.is("22: all as heavy as can be, one fence", x.balanced(1), 24 * 99);
        CHECKS.is("22: all as heavy as can be, eleven", x.balanced(11), 4 * 99);
        CHECKS.is("22: changes nothing", x.about(0), 2);
    }

    private static void promise22Throws() {
        FencedRows x = new FencedRows();
        for (int n : new int[] {0, 12, -1, Integer.MIN_VALUE, Integer.MAX_VALUE}) {
            CHECKS.throwsArgument("22: balanced(" + n + ")", x, () -> x.balanced(n));
        }
    }

    private static int canBe(int lie, boolean... away) {
        FencedRows x = Checks.four(2, 5, 5, 90);
        for (int r = 0; r < away.length; r++) {
            x.away(r, away[r]);
        }
        x.lie(0, lie);
        x.tell();
        return x.canBe(0);
    }

    /** Sums of 2, 5, 5 and 90: 0, 2, 5, 7, 10, 12 and 90 more than these. */
    private static void promise23CanBe() {
        CHECKS.is("23: 102", canBe(0), 1);
        CHECKS.is("23: 103", canBe(1), 0);
        CHECKS.is("23: 104", canBe(2), 0);
        CHECKS.is("23: 101", canBe(-1), 0);
        CHECKS.is("23: 100", canBe(-2), 1);
        CHECKS.is("23: 0", canBe(0, true, true, true, true), 1);
        CHECKS.is("23: -1", canBe(-1, true, true, true, true), 0);
        CHECKS.is("23: -2", canBe(-2, true, true, true, true), 0);
        CHECKS.is("23: 1", canBe(1, true, true, true, true), 0);
        CHECKS.is("23: 2", canBe(2, true, true, true, true), 1);
        CHECKS.is("23: 4", canBe(2, false, true, true, true), 0);
        CHECKS.is("23: 12", canBe(0, false, false, false, true), 1);
        CHECKS.is("23: 14", canBe(2, false, false, false, true), 0);
        CHECKS.is("23: 92", canBe(2, true, true, true, false), 1);
        CHECKS.is("23: 91", canBe(1, true, true, true, false), 0);
        FencedRows later = Checks.four(2, 5, 5, 90);
        later.tell();
        later.weigh(0, 1);
        CHECKS.is("23: by the weights now", later.canBe(0), 0);
        later.away(1, true);
        later.weigh(0, 2);
        CHECKS.is("23: rows that are away weigh, too", later.canBe(0), 1);
        FencedRows heavy = new FencedRows();
        for (int r = 0; r < 48; r++) {
            heavy.weigh(r, 99);
        }
        heavy.tell();
        CHECKS.is("23: all of 48 rows of 99", heavy.canBe(0), 1);
        heavy.lie(0, -1);
        heavy.tell();
        CHECKS.is("23: one less", heavy.canBe(0), 0);
        heavy.away(5, true);
        heavy.lie(0, 0);
        heavy.tell();
        CHECKS.is("23: all but one", heavy.canBe(0), 1);
    }

    private static void promise23Sixty4() {
        FencedRows x = Checks.four(64, 64, 1, 1);
        x.away(2, true);
        x.away(3, true);
        x.tell();
        CHECKS.is("23: 64 and 64", x.canBe(0), 1);
        x.weigh(1, 99);
        CHECKS.is("23: 128 of 64, 99, 1 and 1", x.canBe(0), 0);
        x.away(1, true);
        x.tell();
        CHECKS.is("23: 64 of 64, 99, 1 and 1", x.canBe(0), 1);
    }

    private static void promise23BelowZero() {
        for (int weight = 1; weight <= 3; weight++) {
            FencedRows x = new FencedRows();
            for (int r = 0; r < 48; r++) {
                x.weigh(r, weight);
                x.away(r, true);
            }
            for (int lie = -2; lie <= 0; lie++) {
                x.lie(0, lie);
                x.tell();
                CHECKS.is("23: " + lie + " of 48 rows of " + weight, x.canBe(0), lie < 0 ? 0 : 1);
            }
        }
    }

    private static void promise23Throws() {
        FencedRows x = Checks.four(1, 1, 1, 1);
        CHECKS.throwsState("23: no sums", x, () -> x.canBe(0));
        for (int k : NO_BLOCKS) {
            CHECKS.throwsIndex("23: block " + k + ", and no sums", x, () -> x.canBe(k));
        }
        x.tell();
        for (int k : NO_BLOCKS) {
            CHECKS.throwsIndex("23: block " + k, x, () -> x.canBe(k));
        }
        x.trust(0);
        CHECKS.is("23: trust does not matter", x.canBe(1), 1);
    }

    private static void promise24Farthest() {
        FencedRows x = Checks.four(1, 1, 1, 1);
        x.fence(10, true);
        CHECKS.is("24: no sums", x.farthest(), FencedRows.NONE);
        x.tell();
        CHECKS.is("24: each is right", x.farthest(), FencedRows.NONE);
        x.away(20, true);
        CHECKS.is("24: the last by 1", x.farthest(), 2);
        x.away(5, true);
        CHECKS.is("24: of several the lowest", x.farthest(), 1);
        x.away(21, true);
        CHECKS.is("24: the farthest", x.farthest(), 2);
        x.tell();
        CHECKS.is("24: told again", x.farthest(), FencedRows.NONE);
        x.lie(0, -2);
        CHECKS.is("24: a lie alone is no sum", x.farthest(), FencedRows.NONE);
        x.lie(1, 1);
        x.tell();
        CHECKS.is("24: below as well as above", x.farthest(), 0);
        x.weigh(40, 9);
        CHECKS.is("24: by the field now", x.farthest(), 2);
        x.trust(0);
        CHECKS.is("24: trust does not matter", x.farthest(), 2);
        x.fence(10, false);
        CHECKS.is("24: no sums any more", x.farthest(), FencedRows.NONE);
    }
}
