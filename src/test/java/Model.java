import java.util.ArrayList;
import java.util.Arrays;
import java.util.HashSet;
import java.util.List;
import java.util.Set;
import java.util.TreeSet;

/**
 * The document once more, written the slow way and with the Java library, to
 * compare the program with. It shares no code with it.
 */
final class Model {
    static final int NONE = -1;

    /** All that undo takes back. */
    private static final class State {
        int[] weight = new int[48];
        int[] losses = new int[48];
        boolean[] away = new boolean[48];
        boolean[] taken = new boolean[48];
        TreeSet<Integer> fences = new TreeSet<>();
        int[] lie = new int[12];
        int[] sum = null;
        int trust = 1;
        int looks = 0;
        int wrongly = 0;
        int missed = 0;

        State() {
            Arrays.fill(weight, 1);
        }

        State copy() {
            State c = new State();
            c.weight = weight.clone();
            c.losses = losses.clone();
            c.away = away.clone();
            c.taken = taken.clone();
            c.fences = new TreeSet<>(fences);
            c.lie = lie.clone();
            c.sum = sum == null ? null : sum.clone();
            c.trust = trust;
            c.looks = looks;
            c.wrongly = wrongly;
            c.missed = missed;
            return c;
        }

        /** The rows of each block. */
        List<List<Integer>> blocks() {
            List<List<Integer>> blocks = new ArrayList<>();
            for (int r = 0; r < 48; r++) {
                if (r == 0 || fences.contains(r)) {
                    blocks.add(new ArrayList<>());
                }
                blocks.get(blocks.size() - 1).add(r);
            }
            return blocks;
        }

        int book(List<Integer> rows) {
            return rows.stream().mapToInt(r -> weight[r]).sum();
        }

        int field(List<Integer> rows) {
            return rows.stream().filter(r -> !away[r]).mapToInt(r -> weight[r]).sum();
        }

        int value(int way, int r) {
            return way == 0 ? 1 : way == 1 ? weight[r] : losses[r] + 1;
        }

        /** How many of the rows stand ahead of the place at which they are halved. */
        int half(int way, List<Integer> rows) {
            int all = rows.stream().mapToInt(r -> value(way, r)).sum();
            int best = 0;
            for (int n = 1; n < rows.size(); n++) {
                int gap = gap(way, rows, n, all);
                if (best == 0 || gap < gap(way, rows, best, all)) {
                    best = n;
                }
            }
            return best;
        }

        private int gap(int way, List<Integer> rows, int n, int all) {
            return Math.abs(2 * rows.subList(0, n).stream().mapToInt(r -> value(way, r)).sum() - all);
        }

        /** Adds the rows taken for away, and returns the looks. */
        int searchRows(int way, List<Integer> rows, int lacking, Set<Integer> found) {
            if (lacking == book(rows)) {
                found.addAll(rows);
                return 0;
            }
            if (rows.size() == 1) {
                if (away[rows.get(0)]) {
                    found.add(rows.get(0));
                }
                return 1;
            }
            int n = half(way, rows);
            List<Integer> left = rows.subList(0, n);
            List<Integer> right = rows.subList(n, rows.size());
            int looks = 1;
            int difference = book(left) - field(left);
            if (book(left) > field(left)) {
                looks += searchRows(way, left, difference, found);
            }
            if (lacking > difference) {
                looks += searchRows(way, right, lacking - difference, found);
            }
            return looks;
        }

        int search(int way, Set<Integer> found) {
            int looks = 0;
            List<List<Integer>> blocks = blocks();
            for (int k = 0; k < blocks.size(); k++) {
                List<Integer> rows = blocks.get(k);
                int lacking;
                if (trust == 1) {
                    lacking = book(rows) - sum[k];
                } else {
                    looks++;
                    lacking = book(rows) - field(rows);
                }
                if (lacking > 0) {
                    looks += searchRows(way, rows, lacking, found);
                }
            }
            return looks;
        }

        int awayRows() {
            int n = 0;
            for (boolean a : away) {
                n += a ? 1 : 0;
            }
            return n;
        }

        int takenRows() {
            int n = 0;
            for (boolean t : taken) {
                n += t ? 1 : 0;
            }
            return n;
        }
    }

    private State now = new State();
    private List<State> remembered = new ArrayList<>();
    private final State[] slots = new State[2];
    private final StringBuilder text = new StringBuilder();

    private static void index(boolean fine) {
        if (!fine) {
            throw new IndexOutOfBoundsException();
        }
    }

    private static void argument(boolean fine) {
        if (!fine) {
            throw new IllegalArgumentException();
        }
    }

    private static void state(boolean fine) {
        if (!fine) {
            throw new IllegalStateException();
        }
    }

    private static boolean within(int x, int low, int high) {
        return x >= low && x <= high;
    }

    private void remember() {
        remembered.add(now.copy());
        if (remembered.size() > 14) {
            remembered.remove(0);
        }
    }

    // ---- text

    int append(int c) {
        argument(within(c, 0, 255));
        state(text.length() < 120);
        text.append((char) c);
        return text.length();
    }

    int clearText() {
        int n = text.length();
        text.setLength(0);
        return n;
    }

    /** Each command that the document allows, written out. */
    private static final Set<String> COMMANDS = commands();
    private static final Set<String> BEGINNINGS = beginnings();

    private static Set<String> commands() {
        Set<String> all = new HashSet<>();
        for (int r = 0; r < 48; r++) {
            all.add(String.format("a%02d", r));
            all.add(String.format("c%02d", r));
            for (int w = 1; w <= 99; w++) {
                all.add(String.format("w%02d%02d", r, w));
            }
            if (r > 0) {
                all.add(String.format("f%02d", r));
            }
        }
        for (int k = 0; k < 12; k++) {
            for (int v = 0; v < 5; v++) {
                all.add(String.format("l%02d%d", k, v));
            }
        }
        for (int n = 1; n <= 11; n++) {
            all.add(String.format("s%02d", n));
        }
        all.addAll(List.of("n", "k0", "k1", "k2"));
        return all;
    }

    private static Set<String> beginnings() {
        Set<String> all = new HashSet<>();
        for (String c : COMMANDS) {
            for (int i = 0; i <= c.length(); i++) {
                all.add(c.substring(0, i));
            }
        }
        return all;
    }

    /** The commands of the text, as far as it is right, or null with the error in place[0]. */
    private List<String> parts(int[] place) {
        List<String> parts = new ArrayList<>();
        String t = text.toString();
        if (!t.startsWith("M")) {
            place[0] = 0;
            return null;
        }
        int at = 1;
        while (at < t.length()) {
            int end = at + 1;
            while (end <= t.length() && BEGINNINGS.contains(t.substring(at, end))
                    && !COMMANDS.contains(t.substring(at, end))) {
                end++;
            }
            if (end > t.length()) {
                place[0] = t.length();
                return null;
            }
            if (!COMMANDS.contains(t.substring(at, end))) {
                place[0] = end - 1;
                return null;
            }
            parts.add(t.substring(at, end));
            at = end;
        }
        return parts;
    }

    int errorPosition() {
        int[] place = new int[1];
        return parts(place) == null ? place[0] : NONE;
    }

    int load() {
        List<String> parts = parts(new int[1]);
        state(parts != null);
        now = new State();
        int leftOut = 0;
        for (String p : parts) {
            try {
                command(p);
            } catch (IndexOutOfBoundsException | IllegalArgumentException | IllegalStateException e) {
                leftOut++;
            }
        }
        remembered.clear();
        slots[0] = null;
        slots[1] = null;
        return leftOut;
    }

    private void command(String p) {
        char c = p.charAt(0);
        if (c == 'n') {
            tell();
        } else if (c == 'k') {
            seek(p.charAt(1) - '0');
        } else {
            int number = Integer.parseInt(p.substring(1, 3));
            switch (c) {
                case 'a' -> away(number, true);
                case 'c' -> away(number, false);
                case 'w' -> weigh(number, Integer.parseInt(p.substring(3)));
                case 'f' -> fence(number, true);
                case 'l' -> lie(number, Integer.parseInt(p.substring(3)) - 2);
                default -> spread(number);
            }
        }
    }

    // ---- what there is

    int about(int what) {
        argument(within(what, 0, 10));
        List<Integer> all = new ArrayList<>();
        for (int r = 0; r < 48; r++) {
            all.add(r);
        }
        return switch (what) {
            case 0 -> now.blocks().size();
            case 1 -> now.awayRows();
            case 2 -> now.book(all);
            case 3 -> now.field(all);
            case 4 -> now.sum == null ? 0 : 1;
            case 5 -> now.looks;
            case 6 -> now.takenRows();
            case 7 -> now.wrongly;
            case 8 -> now.missed;
            case 9 -> now.trust;
            default -> Arrays.stream(now.losses).sum();
        };
    }

    int rowOf(int r, int what) {
        index(within(r, 0, 47));
        argument(within(what, 0, 4));
        return switch (what) {
            case 0 -> now.weight[r];
            case 1 -> now.away[r] ? 1 : 0;
            case 2 -> now.losses[r];
            case 3 -> now.fences.headSet(r, true).size();
            default -> now.taken[r] ? 1 : 0;
        };
    }

    private boolean isBlock(int k) {
        return within(k, 0, now.fences.size());
    }

    int blockOf(int k, int what) {
        index(isBlock(k));
        argument(within(what, 0, 5));
        state(what != 5 || now.sum != null);
        List<Integer> rows = now.blocks().get(k);
        return switch (what) {
            case 0 -> rows.get(0);
            case 1 -> rows.size();
            case 2 -> now.book(rows);
            case 3 -> now.field(rows);
            case 4 -> now.lie[k];
            default -> now.sum[k];
        };
    }

    // ---- actions

    int weigh(int r, int w) {
        index(within(r, 0, 47));
        argument(within(w, 1, 99));
        remember();
        int previous = now.weight[r];
        now.weight[r] = w;
        return previous;
    }

    int away(int r, boolean away) {
        index(within(r, 0, 47));
        remember();
        now.away[r] = away;
        return now.awayRows();
    }

    private void forgetSums() {
        now.sum = null;
        now.lie = new int[12];
    }

    int fence(int r, boolean put) {
        index(within(r, 1, 47));
        state(!put || now.fences.contains(r) || now.fences.size() < 11);
        remember();
        if (put ? now.fences.add(r) : now.fences.remove(r)) {
            forgetSums();
        }
        return now.fences.size() + 1;
    }

    int spread(int n) {
        argument(within(n, 1, 11));
        remember();
        int g = balanced(n);
        now.fences.clear();
        int first = 0;
        while (first < 48) {
            int end = first;
            int book = 0;
            while (end < 48 && book + now.weight[end] <= g) {
                book += now.weight[end];
                end++;
            }
            if (end < 48) {
                now.fences.add(end);
            }
            first = end;
        }
        forgetSums();
        return now.fences.size() + 1;
    }

    int lie(int k, int v) {
        index(isBlock(k));
        argument(within(v, -2, 2));
        remember();
        int previous = now.lie[k];
        now.lie[k] = v;
        return previous;
    }

    int tell() {
        remember();
        List<List<Integer>> blocks = now.blocks();
        now.sum = new int[12];
        for (int k = 0; k < blocks.size(); k++) {
            now.sum[k] = now.field(blocks.get(k)) + now.lie[k];
        }
        return Arrays.stream(now.sum).sum();
    }

    private boolean noSearch() {
        return now.trust == 1 && now.sum == null;
    }

    int seek(int way) {
        argument(within(way, 0, 2));
        state(!noSearch());
        remember();
        Set<Integer> found = new HashSet<>();
        int looks = now.search(way, found);
        now.looks += looks;
        now.wrongly = 0;
        now.missed = 0;
        for (int r = 0; r < 48; r++) {
            now.taken[r] = found.contains(r);
            if (now.taken[r]) {
                now.losses[r] = Math.min(99, now.losses[r] + 1);
            }
            now.wrongly += now.taken[r] && !now.away[r] ? 1 : 0;
            now.missed += now.away[r] && !now.taken[r] ? 1 : 0;
        }
        return looks;
    }

    int trust(int v) {
        argument(within(v, 0, 1));
        remember();
        int previous = now.trust;
        now.trust = v;
        return previous;
    }

    int undo() {
        state(!remembered.isEmpty());
        now = remembered.remove(remembered.size() - 1);
        return remembered.size();
    }

    // ---- what would be

    int ifSought(int way, int what) {
        argument(within(way, 0, 2) && within(what, 0, 3));
        state(!noSearch());
        return onCopy(() -> {
            int looks = seek(way);
            return what == 0 ? looks : what == 1 ? now.takenRows() : what == 2 ? now.wrongly : now.missed;
        });
    }

    private int onCopy(java.util.function.IntSupplier task) {
        State kept = now;
        List<State> keptRemembered = remembered;
        now = kept.copy();
        remembered = new ArrayList<>();
        int answer = task.getAsInt();
        now = kept;
        remembered = keptRemembered;
        return answer;
    }

    int bestWay() {
        if (noSearch()) {
            return NONE;
        }
        int best = 0;
        for (int way = 1; way < 3; way++) {
            if (ifSought(way, 0) < ifSought(best, 0)) {
                best = way;
            }
        }
        return best;
    }

    /** Really sends each row away alone, and searches the block for it. */
    int looks(int k, int way, int what) {
        index(isBlock(k));
        argument(within(way, 0, 2) && within(what, 0, 1));
        State alone = now.copy();
        Arrays.fill(alone.away, false);
        List<Integer> rows = alone.blocks().get(k);
        int most = 0;
        int all = 0;
        for (int r : rows) {
            alone.away[r] = true;
            int looks = alone.searchRows(way, rows, alone.weight[r], new HashSet<>());
            alone.away[r] = false;
            most = Math.max(most, looks);
            all += looks * (now.losses[r] + 1);
        }
        return what == 0 ? most : all;
    }

    int leastLooks(int k) {
        index(isBlock(k));
        List<Integer> rows = now.blocks().get(k);
        return leastOf(rows.get(0), rows.get(0) + rows.size(), new int[49][49]);
    }

    private int leastOf(int from, int end, int[][] known) {
        if (end - from == 1) {
            return 0;
        }
        if (known[from][end] == 0) {
            int best = Integer.MAX_VALUE;
            for (int m = from + 1; m < end; m++) {
                best = Math.min(best, leastOf(from, m, known) + leastOf(m, end, known));
            }
            for (int r = from; r < end; r++) {
                best += now.losses[r] + 1;
            }
            known[from][end] = best;
        }
        return known[from][end];
    }

    /** The least greatest book of the first rows in so many blocks, block by block. */
    int balanced(int n) {
        argument(within(n, 1, 11));
        int[] best = new int[49];
        Arrays.fill(best, 1, 49, Integer.MAX_VALUE);
        for (int blocks = 1; blocks <= n + 1; blocks++) {
            int[] next = best.clone();
            for (int end = 1; end <= 48; end++) {
                int book = 0;
                for (int from = end - 1; from >= 0; from--) {
                    book += now.weight[from];
                    next[end] = Math.min(next[end], Math.max(best[from], book));
                }
            }
            best = next;
        }
        return best[48];
    }

    int canBe(int k) {
        index(isBlock(k));
        state(now.sum != null);
        Set<Integer> sums = new HashSet<>(Set.of(0));
        for (int r : now.blocks().get(k)) {
            for (int s : new ArrayList<>(sums)) {
                sums.add(s + now.weight[r]);
            }
        }
        return sums.contains(now.sum[k]) ? 1 : 0;
    }

    int farthest() {
        if (now.sum == null) {
            return NONE;
        }
        int best = NONE;
        int far = 0;
        List<List<Integer>> blocks = now.blocks();
        for (int k = blocks.size() - 1; k >= 0; k--) {
            int off = Math.abs(now.sum[k] - now.field(blocks.get(k)));
            if (off > 0 && off >= far) {
                best = k;
                far = off;
            }
        }
        return best;
    }

    // ---- scripts, simulations

    int runScript(int n, long script) {
        argument(within(n, 1, 3) && script >= 0 && String.valueOf(script).length() <= 5 * n);
        String digits = String.format("%0" + 5 * n + "d", script);
        return onCopy(() -> {
            for (int i = 0; i < n; i++) {
                boolean fine;
                try {
                    fine = succeeds(digits.substring(5 * i, 5 * i + 5));
                } catch (IndexOutOfBoundsException | IllegalArgumentException | IllegalStateException e) {
                    fine = false;
                }
                if (!fine) {
                    return i;
                }
            }
            return NONE;
        });
    }

    private boolean succeeds(String g) {
        int two = Integer.parseInt(g.substring(1, 3));
        int last = g.charAt(4) - '0';
        int lastTwo = Integer.parseInt(g.substring(3));
        if (g.matches("1..0[01]")) {
            away(two, last == 1);
            return true;
        }
        if (g.matches("2..0[01]")) {
            fence(two, last == 1);
            return true;
        }
        if (g.matches("3..0.")) {
            lie(two, last - 2);
            return true;
        }
        if (g.equals("40000")) {
            tell();
            return true;
        }
        if (g.matches("5000.")) {
            seek(last);
            return true;
        }
        if (g.startsWith("6")) {
            return about(5) <= Integer.parseInt(g.substring(1));
        }
        if (g.matches("7..0.")) {
            return rowOf(two, 4) == last;
        }
        if (g.startsWith("8")) {
            return blockOf(two, 1) >= lastTwo;
        }
        return g.matches("900..") && about(8) <= lastTwo;
    }

    int simulate(long seed, int m) {
        argument(within(m, 1, 60));
        return onCopy(() -> {
            int looks = 0;
            long x = seed;
            for (int i = 0; i < m; i++) {
                x = x * 6364136223846793005L + 1442695040888963407L;
                int r = (int) (x >>> 33);
                try {
                    looks += turn(r % 8, r / 8);
                } catch (IndexOutOfBoundsException | IllegalArgumentException | IllegalStateException e) {
                    // left out
                }
            }
            return 1000 * looks + 10 * about(6) + Math.min(9, about(7));
        });
    }

    private int turn(int kind, int q) {
        if (kind <= 1) {
            away(q % 48, (q / 48) % 3 != 0);
        } else if (kind == 2) {
            weigh(q % 48, 1 + (q / 48) % 99);
        } else if (kind == 3) {
            fence(1 + q % 47, (q / 64) % 2 == 0);
        } else if (kind == 4) {
            tell();
        } else if (kind == 5) {
            if ((q / 128) % 2 == 0) {
                lie(q % 12, (q / 16) % 5 - 2);
            } else {
                trust(q % 2);
            }
        } else {
            return seek(q % 3);
        }
        return 0;
    }

    // ---- save slots

    int save(int slot) {
        index(within(slot, 0, 1));
        slots[slot] = now.copy();
        return about(0);
    }

    int restore(int slot) {
        index(within(slot, 0, 1));
        state(slots[slot] != null);
        now = slots[slot].copy();
        remembered.clear();
        return about(0);
    }
}
