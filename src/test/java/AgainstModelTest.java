import java.util.ArrayList;
import java.util.List;
import java.util.Random;

/** Runs of calls by fixed seeds, each answer and each exception compared with the model's. */
public final class AgainstModelTest {
    private static final int RUNS = 1200;
    private static final int CALLS = 512;
    private static final int CALLS_TO_SEE = 250;

    /** A call of the program, or the same of the model. */
    private interface Call {
        long answer();
    }

    private final Random random;
    private final boolean toBeSeen;
    private final int mostCalls;
    private final FencedRows x = new FencedRows();
    private final Model model = new Model();
    private final List<String> calls = new ArrayList<>();
    private boolean differs = false;

    /** Two of three runs leave calls for a look at all of the state. */
    private AgainstModelTest(long seed) {
        random = new Random(seed);
        toBeSeen = seed % 3 > 0;
        mostCalls = toBeSeen ? CALLS - CALLS_TO_SEE : CALLS;
    }

    public static void main(String[] args) {
        int wrong = 0;
        for (int seed = 1; seed <= RUNS; seed++) {
            AgainstModelTest run = new AgainstModelTest(seed);
            run.make(seed);
            wrong += run.differs ? 1 : 0;
        }
        System.out.println(RUNS + " runs, " + wrong + " of them wrong");
        if (wrong > 0) {
            System.exit(1);
        }
    }

    private void make(int seed) {
        if (seed % 2 == 0) {
            warmUp();
        }
        while (calls.size() < mostCalls && !differs) {
            call();
        }
        if (toBeSeen && !differs) {
            compareState();
        }
        if (differs) {
            System.out.println("seed " + seed + ", the last calls: "
                    + calls.subList(Math.max(0, calls.size() - 12), calls.size()));
        }
    }

    /** Rows of many weights, fences, and some rows away, so that searches have something to do. */
    private void warmUp() {
        int heaviest = 1 + random.nextInt(99);
        for (int r = 0; r < 48; r++) {
            int row = r;
            int w = 1 + random.nextInt(heaviest);
            both("weigh(" + r + ", " + w + ")", () -> x.weigh(row, w), () -> model.weigh(row, w));
        }
        for (int i = random.nextInt(20); i > 0; i--) {
            int r = random.nextInt(48);
            both("away(" + r + ", true)", () -> x.away(r, true), () -> model.away(r, true));
        }
    }

    private void both(String call, Call program, Call reference) {
        if (calls.size() == mostCalls) {
            return;
        }
        calls.add(call);
        String got = answer(program);
        String due = answer(reference);
        calls.set(calls.size() - 1, call + " = " + due);
        if (!got.equals(due)) {
            differs = true;
            System.out.println(call + " answered " + got + ", due is " + due);
        }
    }

    private static String answer(Call call) {
        try {
            return String.valueOf(call.answer());
        } catch (RuntimeException e) {
            return e.getClass().getSimpleName();
        }
    }

    /** In the order of Checks.seen(). */
    private void compareState() {
        List<Integer> due = new ArrayList<>();
        for (int what = 0; what <= 10; what++) {
            due.add(model.about(what));
        }
        for (int k = 0; k < model.about(0); k++) {
            due.add(model.blockOf(k, 0));
            due.add(model.blockOf(k, 4));
            due.add(model.about(4) == 1 ? model.blockOf(k, 5) : 0);
        }
        for (int r = 0; r < 48; r++) {
            for (int what : new int[] {0, 1, 2, 4}) {
                due.add(model.rowOf(r, what));
            }
        }
        List<Integer> got = Checks.seen(x);
        if (!got.equals(due)) {
            differs = true;
            System.out.println("the states differ:\n  got " + got + "\n  due " + due);
        }
    }

    /** Mostly within the range, sometimes just or far outside it. */
    private int about(int low, int high) {
        int die = random.nextInt(40);
        if (die == 0) {
            return low - 1;
        }
        if (die == 1) {
            return high + 1;
        }
        if (die == 2) {
            return random.nextInt();
        }
        return low + random.nextInt(high - low + 1);
    }

    private int block() {
        return about(0, model.about(0) - 1);
    }

    private void call() {
        int die = random.nextInt(100);
        if (die < 55) {
            action(die);
        } else if (die < 80) {
            question(die);
        } else if (die < 92) {
            scriptOrSimulation();
        } else if (die < 94) {
            text();
        } else {
            slot(die);
        }
    }

    private void action(int die) {
        if (die < 16) {
            int r = about(0, 47);
            boolean away = random.nextInt(3) > 0;
            both("away(" + r + ", " + away + ")", () -> x.away(r, away), () -> model.away(r, away));
        } else if (die < 22) {
            int r = about(0, 47);
            int w = about(1, 99);
            both("weigh(" + r + ", " + w + ")", () -> x.weigh(r, w), () -> model.weigh(r, w));
        } else if (die < 28) {
            int r = about(1, 47);
            boolean put = random.nextInt(3) > 0;
            both("fence(" + r + ", " + put + ")", () -> x.fence(r, put), () -> model.fence(r, put));
        } else if (die < 30) {
            int n = about(1, 11);
            both("spread(" + n + ")", () -> x.spread(n), () -> model.spread(n));
        } else if (die < 36) {
            int k = block();
            int v = about(-2, 2);
            both("lie(" + k + ", " + v + ")", () -> x.lie(k, v), () -> model.lie(k, v));
        } else if (die < 41) {
            both("tell()", x::tell, model::tell);
        } else if (die < 49) {
            int way = about(0, 2);
            both("seek(" + way + ")", () -> x.seek(way), () -> model.seek(way));
        } else if (die < 51) {
            int v = about(0, 1);
            both("trust(" + v + ")", () -> x.trust(v), () -> model.trust(v));
        } else {
            for (int i = random.nextInt(20) == 0 ? 16 : 1 + random.nextInt(2); i > 0 && !differs; i--) {
                both("undo()", x::undo, model::undo);
            }
        }
    }

    private void question(int die) {
        int k = block();
        int way = about(0, 2);
        if (die < 60) {
            int what = about(0, 3);
            both("ifSought(" + way + ", " + what + ")", () -> x.ifSought(way, what), () -> model.ifSought(way, what));
        } else if (die < 63) {
            both("bestWay()", x::bestWay, model::bestWay);
        } else if (die < 68) {
            int what = about(0, 1);
            both("looks(" + k + ", " + way + ", " + what + ")", () -> x.looks(k, way, what),
                    () -> model.looks(k, way, what));
        } else if (die < 71) {
            both("leastLooks(" + k + ")", () -> x.leastLooks(k), () -> model.leastLooks(k));
        } else if (die < 74) {
            int n = about(1, 11);
            both("balanced(" + n + ")", () -> x.balanced(n), () -> model.balanced(n));
        } else if (die < 77) {
            both("canBe(" + k + ")", () -> x.canBe(k), () -> model.canBe(k));
        } else if (die < 78) {
            both("farthest()", x::farthest, model::farthest);
        } else {
            asks(k, about(0, 47));
        }
    }

    private void asks(int k, int r) {
        int what = about(0, 10);
        both("about(" + what + ")", () -> x.about(what), () -> model.about(what));
        int ofRow = about(0, 4);
        both("rowOf(" + r + ", " + ofRow + ")", () -> x.rowOf(r, ofRow), () -> model.rowOf(r, ofRow));
        int ofBlock = about(0, 5);
        both("blockOf(" + k + ", " + ofBlock + ")", () -> x.blockOf(k, ofBlock), () -> model.blockOf(k, ofBlock));
    }

    private void scriptOrSimulation() {
        if (random.nextInt(3) == 0) {
            long seed = random.nextLong();
            int m = about(1, 60);
            both("simulate(" + seed + ", " + m + ")", () -> x.simulate(seed, m), () -> model.simulate(seed, m));
            return;
        }
        int n = about(1, 3);
        long script = 0;
        for (int i = Math.min(3, Math.max(1, n)); i > 0; i--) {
            script = script * 100000 + group();
        }
        if (random.nextInt(30) == 0) {
            script = random.nextLong();
        }
        long number = script;
        both("runScript(" + n + ", " + number + ")", () -> x.runScript(n, number), () -> model.runScript(n, number));
    }

    private long group() {
        int row = random.nextInt(random.nextInt(8) == 0 ? 100 : 48);
        int block = random.nextInt(random.nextInt(8) == 0 ? 100 : model.about(0));
        int bit = random.nextInt(random.nextInt(8) == 0 ? 10 : 2);
        switch (random.nextInt(11)) {
            case 0:
                return random.nextInt(100000);
            case 1:
                return 10000 + 100 * row + bit;
            case 2:
                return 20000 + 100 * row + bit;
            case 3:
                return 30000 + 100 * block + random.nextInt(6);
            case 4:
                return 40000;
            case 5:
            case 10:
                return 50000 + random.nextInt(4);
            case 6:
                return 60000 + Math.min(9999, Math.max(0, model.about(5) + random.nextInt(41) - 20));
            case 7:
                return 70000 + 100 * row + bit;
            case 8:
                return 80000 + 100 * block + random.nextInt(13);
            default:
                return 90000 + random.nextInt(4);
        }
    }

    private void text() {
        both("clearText()", x::clearText, model::clearText);
        StringBuilder made = new StringBuilder("M");
        int length = random.nextInt(20) == 0 ? 125 : random.nextInt(100);
        while (made.length() < length) {
            made.append(command());
        }
        if (random.nextInt(3) == 0) {
            int place = random.nextInt(made.length());
            int sign = random.nextBoolean() ? '0' + random.nextInt(10) : random.nextInt(256);
            made.setCharAt(place, (char) sign);
        }
        for (int i = 0; i < made.length() && !differs; i++) {
            int c = made.charAt(i);
            both("append(" + c + ")", () -> x.append(c), () -> model.append(c));
        }
        int c = about(0, 255);
        if (random.nextInt(4) == 0) {
            both("append(" + c + ")", () -> x.append(c), () -> model.append(c));
        }
        both("errorPosition()", x::errorPosition, model::errorPosition);
        both("load()", x::load, model::load);
    }

    private String command() {
        switch (random.nextInt(9)) {
            case 0:
                return String.format("c%02d", random.nextInt(48));
            case 1:
                return String.format("w%02d%02d", random.nextInt(48), 1 + random.nextInt(99));
            case 2:
                return String.format("f%02d", 1 + random.nextInt(47));
            case 3:
                return String.format("l%02d%d", random.nextInt(12), random.nextInt(5));
            case 4:
                return String.format("s%02d", 1 + random.nextInt(11));
            case 5:
                return "n";
            case 6:
                return "k" + random.nextInt(3);
            default:
                return String.format("a%02d", random.nextInt(48));
        }
    }

    private void slot(int die) {
        int slot = about(0, 1);
        if (die < 97) {
            both("save(" + slot + ")", () -> x.save(slot), () -> model.save(slot));
        } else {
            both("restore(" + slot + ")", () -> x.restore(slot), () -> model.restore(slot));
        }
    }
}
