/** Seeds that lead simulations to chosen turns, and turns made by calls. */
final class Turns {
    private static final long FACTOR = 6364136223846793005L;
    private static final long STEP = 1442695040888963407L;
    private static final int TURNS = 8;

    /** The x behind a turn, by the x ahead of it. */
    static long next(long x) {
        return x * FACTOR + STEP;
    }

    /** The r of a turn, by its x. */
    static int number(long x) {
        return (int) (x >>> 33);
    }

    /** The seed that leads to this x in the first turn: each round of the inverse doubles the bits that are right. */
    static long seedFor(long x) {
        long inverse = FACTOR;
        for (int i = 0; i < 6; i++) {
            inverse *= 2 - FACTOR * inverse;
        }
        return (x - STEP) * inverse;
    }

    /** Six blocks, of which two lie, some rows away, sums that are out of date, and one search. */
    static FencedRows meadow() {
        FencedRows x = new FencedRows();
        x.spread(5);
        x.lie(1, -1);
        for (int r = 0; r < 48; r += 5) {
            x.away(r, true);
            x.weigh(r, 10 + r);
        }
        x.lie(4, 2);
        x.tell();
        x.away(9, true);
        x.seek(1);
        return x;
    }

    /**
     * That the first of some turns, of this kind and q, does what a call does,
     * by a seed with which the answer is not that of another call.
     */
    static void same(Checks checks, String what, int kind, int q, Checks.Use due, Checks.Use other) {
        for (long low = 0; low < 2000; low++) {
            long first = ((long) (8 * q + kind) << 33) + low * 4000037L;
            int answer = answer(first, due);
            if (answer != answer(first, other)) {
                checks.answers(what, Turns::meadow, x -> x.simulate(seedFor(first), TURNS), answer);
                return;
            }
        }
        checks.yes(what + ": there is a seed that tells it from another", false);
    }

    /** The answer due if the first turn, with this x, makes a call. */
    private static int answer(long first, Checks.Use call) {
        FencedRows x = meadow();
        long answered = call.on(x);
        int looks = number(first) % 8 >= 6 ? (int) answered : 0;
        return answer(looks + byHand(x, first, TURNS - 1), x);
    }

    static int answer(int looks, FencedRows x) {
        return 1000 * looks + 10 * x.about(6) + Math.min(9, x.about(7));
    }

    /** Makes turns by calls, the first behind this x, and returns their looks. */
    static int byHand(FencedRows x, long ahead, int turns) {
        int looks = 0;
        long step = ahead;
        for (int i = 0; i < turns; i++) {
            step = next(step);
            looks += turn(x, number(step) % 8, number(step) / 8);
        }
        return looks;
    }

    /** Makes a turn by a call, and returns its looks. */
    private static int turn(FencedRows x, int kind, int q) {
        try {
            switch (kind) {
                case 0, 1 -> x.away(q % 48, q / 48 % 3 != 0);
                case 2 -> x.weigh(q % 48, 1 + q / 48 % 99);
                case 3 -> x.fence(1 + q % 47, q / 64 % 2 == 0);
                case 4 -> x.tell();
                case 5 -> {
                    if (q / 128 % 2 == 0) {
                        x.lie(q % 12, q / 16 % 5 - 2);
                    } else {
                        x.trust(q % 2);
                    }
                }
                default -> {
                    return x.seek(q % 3);
                }
            }
        } catch (IndexOutOfBoundsException | IllegalArgumentException | IllegalStateException e) {
            return 0;
        }
        return 0;
    }
}
