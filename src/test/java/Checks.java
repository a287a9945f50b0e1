import java.util.ArrayList;
import java.util.List;

/** Counts and prints what is not as due. */
final class Checks {
    /** A call that may throw. */
    interface Call {
        long answer();
    }

    private static final Class<? extends RuntimeException> INDEX = IndexOutOfBoundsException.class;
    private static final Class<? extends RuntimeException> ARGUMENT = IllegalArgumentException.class;
    private static final Class<? extends RuntimeException> STATE = IllegalStateException.class;

    private int made = 0;
    private int wrong = 0;

    void is(String what, long got, long due) {
        made++;
        if (got != due) {
            wrong++;
            System.out.println(what + " answered " + got + ", due is " + due);
        }
    }

    void same(String what, Object got, Object due) {
        made++;
        if (!got.equals(due)) {
            wrong++;
            System.out.println(what + ":\n  got " + got + "\n  due " + due);
        }
    }

    void yes(String what, boolean holds) {
        is(what, holds ? 1 : 0, 1);
    }

    void throwsIndex(String what, FencedRows x, Call call) {
        throwsAndKeeps(what, x, call, INDEX);
    }

    void throwsArgument(String what, FencedRows x, Call call) {
        throwsAndKeeps(what, x, call, ARGUMENT);
    }

    void throwsState(String what, FencedRows x, Call call) {
        throwsAndKeeps(what, x, call, STATE);
    }

    private void throwsAndKeeps(String what, FencedRows x, Call call, Class<? extends RuntimeException> due) {
        List<Long> before = seen(x);
        String got = "nothing";
        try {
            call.answer();
        } catch (RuntimeException e) {
            got = e.getClass().getName();
        }
        same(what + " throws", got, due.getName());
        same(what + " changes nothing", seen(x), before);
    }

    /** All that can be asked of the state without changing it. */
    static List<Long> seen(FencedRows x) {
        List<Long> seen = new ArrayList<>();
        for (int what = 0; what <= 10; what++) {
            seen.add((long) x.about(what));
        }
        for (int r = 0; r < 48; r++) {
            for (int what = 0; what <= 4; what++) {
                seen.add((long) x.rowOf(r, what));
            }
        }
        int blocks = x.about(0);
        int whats = x.about(4) == 1 ? 6 : 5;
        for (int k = 0; k < blocks; k++) {
            for (int what = 0; what < whats; what++) {
                seen.add((long) x.blockOf(k, what));
            }
        }
        seen.add((long) x.errorPosition());
        return seen;
    }

    static void type(FencedRows x, String text) {
        for (int i = 0; i < text.length(); i++) {
            x.append(text.charAt(i));
        }
    }

    static FencedRows loaded(String text) {
        FencedRows x = new FencedRows();
        type(x, text);
        x.load();
        return x;
    }

    /** Rows 0 to 3 in a block of their own, of these weights. */
    static FencedRows four(int a, int b, int c, int d) {
        FencedRows x = new FencedRows();
        x.fence(4, true);
        x.weigh(0, a);
        x.weigh(1, b);
        x.weigh(2, c);
        x.weigh(3, d);
        return x;
    }

    /** To be the last call of a test's main method. */
    void end() {
        System.out.println(made + " checks, " + wrong + " wrong");
        if (wrong > 0 || made == 0) {
            System.exit(1);
        }
    }
}
