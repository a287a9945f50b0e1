import java.util.ArrayList;
import java.util.List;

/**
 * Counts and prints what is not as due. No object is asked more than 512 times
 * here, since what later calls answer is free: what must stay as it was is
 * compared on two objects that were made alike.
 */
final class Checks {
    /** Makes an object by a few calls, always the same ones. */
    interface Maker {
        FencedRows made();
    }

    /** A call, or some. */
    interface Use {
        long on(FencedRows x);
    }

    private static final String NOTHING = "nothing";

    private int made = 0;
    private int wrong = 0;
    private String sentence = "";

    /** What is printed ahead of all that is wrong from here on. */
    void under(String of) {
        sentence = of;
    }

    void is(String what, long got, long due) {
        made++;
        if (got != due) {
            wrong++;
            System.out.println(sentence + what + " answered " + got + ", due is " + due);
        }
    }

    void same(String what, Object got, Object due) {
        made++;
        if (!got.equals(due)) {
            wrong++;
            System.out.println(sentence + what + ":\n  got " + got + "\n  due " + due);
        }
    }

    void differ(String what, Object got, Object other) {
        yes(what + " is another", !got.equals(other));
    }

    void yes(String what, boolean holds) {
        is(what, holds ? 1 : 0, 1);
    }

    void answers(String what, Maker maker, Use use, long due) {
        is(what, use.on(maker.made()), due);
    }

    void throwsIndex(String what, Maker maker, Use use) {
        throwsAndKeeps(what, maker, use, IndexOutOfBoundsException.class);
    }

    void throwsArgument(String what, Maker maker, Use use) {
        throwsAndKeeps(what, maker, use, IllegalArgumentException.class);
    }

    void throwsState(String what, Maker maker, Use use) {
        throwsAndKeeps(what, maker, use, IllegalStateException.class);
    }

    private void throwsAndKeeps(String what, Maker maker, Use use, Class<? extends RuntimeException> due) {
        FencedRows x = maker.made();
        same(what + " throws", thrown(x, use), due.getName());
        same(what + " changes nothing", whole(x), whole(maker.made()));
    }

    void throwsNothing(String what, Maker maker, Use use) {
        same(what + " throws", thrown(maker.made(), use), NOTHING);
    }

    /** That a call answers, and leaves the state, what is remembered, the slots and the text. */
    void keeps(String what, Maker maker, Use use) {
        FencedRows x = maker.made();
        same(what + " throws", thrown(x, use), NOTHING);
        same(what + " changes nothing", whole(x), whole(maker.made()));
    }

    static String thrown(FencedRows x, Use use) {
        try {
            use.on(x);
        } catch (RuntimeException e) {
            return e.getClass().getName();
        }
        return NOTHING;
    }

    /** The state, by some 240 calls that change nothing. */
    static List<Integer> seen(FencedRows x) {
        List<Integer> seen = glance(x);
        for (int k = 0; k < seen.get(0); k++) {
            seen.add(x.blockOf(k, 0));
            seen.add(x.blockOf(k, 4));
            seen.add(seen.get(4) == 1 ? x.blockOf(k, 5) : 0);
        }
        for (int r = 0; r < 48; r++) {
            for (int what : new int[] {0, 1, 2, 4}) {
                seen.add(x.rowOf(r, what));
            }
        }
        return seen;
    }

    /** What about() tells. */
    static List<Integer> glance(FencedRows x) {
        List<Integer> seen = new ArrayList<>();
        for (int what = 0; what <= 10; what++) {
            seen.add(x.about(what));
        }
        return seen;
    }

    /** The state, the states that are remembered, the save slots and the text, by some 450 calls that use them up. */
    static List<Object> whole(FencedRows x) {
        List<Object> whole = new ArrayList<>(seen(x));
        for (int i = 0; i < 15 && thrown(x, FencedRows::undo).equals(NOTHING); i++) {
            whole.add(glance(x));
        }
        for (int slot = 0; slot < 2; slot++) {
            int s = slot;
            whole.add(thrown(x, y -> y.restore(s)));
            whole.add(glance(x));
        }
        whole.add(x.errorPosition());
        whole.add(thrown(x, FencedRows::load));
        whole.add(glance(x));
        whole.add(x.clearText());
        return whole;
    }

    /** To be the last call of a test's main method. */
    void end() {
        System.out.println(made + " checks, " + wrong + " wrong");
        if (wrong > 0 || made == 0) {
            System.exit(1);
        }
    }
}
