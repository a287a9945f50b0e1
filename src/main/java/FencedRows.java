/**
 * A meadow of rows with fences round blocks of them. Blocks are told by sums,
 * so that who is away is found with few looks. ../shared/DOC.md says what each
 * method must do.
 */
public final class FencedRows {
    public static final int NONE = -1;

    private static final int ROWS = 48;
    private static final int MOST_FENCES = 11;
    private static final int MOST_BLOCKS = 12;
    private static final int MOST_WEIGHT = 99;
    private static final int MOST_LOSSES = 99;
    private static final int MOST_LIE = 2;
    private static final int WAYS = 3;
    private static final int BY_WEIGHTS = 1;
    private static final int BY_LOSSES = 2;
    private static final int MOST_CODE = 255;
    private static final int TEXT_ROOM = 120;
    private static final int MOST_REMEMBERED = 14;
    private static final int SLOTS = 2;
    private static final int MOST_COMMANDS = 3;
    private static final int GROUP = 100000;
    private static final int MOST_TURNS = 60;

    private final Herder herder = new Herder();
    private final Meadow now = herder.meadow;
    private final Herder trialHerder = new Herder();
    private final Meadow trial = trialHerder.meadow;
    private final Meadow fresh = new Meadow();
    private final Search search = new Search();
    private final Planner planner = new Planner();
    private final SubsetSums subsetSums = new SubsetSums();
    private final History history = new History();
    private final Slots slots = new Slots();
    private final Text text = new Text();

    public FencedRows() {
    }

    // ---- text

    public int append(int c) throws IllegalArgumentException, IllegalStateException {
        if (c < 0 || c > MOST_CODE) {
            throw new IllegalArgumentException("no such character code");
        }
        if (text.isFull()) {
            throw new IllegalStateException("the text is full");
        }
        text.add((char) c);
        return text.length;
    }

    public int clearText() {
        int previous = text.length;
        text.empty();
        return previous;
    }

    public int errorPosition() {
        return text.firstError();
    }

    public int load() throws IllegalStateException {
        if (text.firstError() != NONE) {
            throw new IllegalStateException("the text is not a meadow");
        }
        now.copyFrom(fresh);
        history.forgetAll();
        slots.emptyAll();
        int leftOut = 0;
        text.goBehindStart();
        for (int i = 0; i < TEXT_ROOM && text.readCommand(); i++) {
            if (!herder.obey(text.letter, text.first, text.second)) {
                leftOut++;
            }
        }
        return leftOut;
    }

    // ---- what there is

    public int about(int what) throws IllegalArgumentException {
        switch (what) {
            case 0:
                return now.blocks();
            case 1:
                return Long.bitCount(now.gone);
            case 2:
                return now.book(0, ROWS);
            case 3:
                return now.field(0, ROWS);
            case 4:
                return now.told ? 1 : 0;
            case 5:
                return now.looksSoFar;
            case 6:
                return Long.bitCount(now.taken);
            case 7:
                return now.wrong;
            case 8:
                return now.missed;
            case 9:
                return now.trusted;
            case 10:
                return now.allLosses();
            default:
                throw new IllegalArgumentException("no such number of the meadow");
        }
    }

    public int rowOf(int r, int what) throws IndexOutOfBoundsException, IllegalArgumentException {
        if (!isRow(r)) {
            throw new IndexOutOfBoundsException("no such row");
        }
        switch (what) {
            case 0:
                return now.weight(r);
            case 1:
                return bit(now.gone, r);
            case 2:
                return now.loss(r);
            case 3:
                return now.blockAt(r);
            case 4:
                return bit(now.taken, r);
            default:
                throw new IllegalArgumentException("no such number of a row");
        }
    }

    public int blockOf(int k, int what)
            throws IndexOutOfBoundsException, IllegalArgumentException, IllegalStateException {
        if (!now.isBlock(k)) {
            throw new IndexOutOfBoundsException("no such block");
        }
        int first = now.firstRow(k);
        int end = now.firstRow(k + 1);
        switch (what) {
            case 0:
                return first;
            case 1:
                return end - first;
            case 2:
                return now.book(first, end);
            case 3:
                return now.field(first, end);
            case 4:
                return now.lieOf(k);
            case 5:
                if (!now.told) {
                    throw new IllegalStateException("no sums are told");
                }
                return now.sum(k);
            default:
                throw new IllegalArgumentException("no such number of a block");
        }
    }

    // ---- actions

    public int weigh(int r, int w) throws IndexOutOfBoundsException, IllegalArgumentException {
        if (!isRow(r)) {
            throw new IndexOutOfBoundsException("no such row");
        }
        if (!isWeight(w)) {
            throw new IllegalArgumentException("no such weight");
        }
        history.remember(now);
        int previous = now.weight(r);
        now.setWeight(r, w);
        return previous;
    }

    public int away(int r, boolean away) throws IndexOutOfBoundsException {
        if (!isRow(r)) {
            throw new IndexOutOfBoundsException("no such row");
        }
        history.remember(now);
        now.setGone(r, away);
        return Long.bitCount(now.gone);
    }

    public int fence(int r, boolean put) throws IndexOutOfBoundsException, IllegalStateException {
        if (!isPlace(r)) {
            throw new IndexOutOfBoundsException("no such place of a fence");
        }
        if (!now.fenceFits(r, put)) {
            throw new IllegalStateException("there are as many fences as can be");
        }
        history.remember(now);
        now.setFence(r, put);
        return now.blocks();
    }

    public int spread(int n) throws IllegalArgumentException {
        if (!isFenceCount(n)) {
            throw new IllegalArgumentException("no such number of fences");
        }
        history.remember(now);
        now.replaceFences(now.evenFences(n));
        return now.blocks();
    }

    public int lie(int k, int v) throws IndexOutOfBoundsException, IllegalArgumentException {
        if (!now.isBlock(k)) {
            throw new IndexOutOfBoundsException("no such block");
        }
        if (!isLie(v)) {
            throw new IllegalArgumentException("no such lie");
        }
        history.remember(now);
        int previous = now.lieOf(k);
        now.setLie(k, v);
        return previous;
    }

    public int tell() {
        history.remember(now);
        now.tellSums();
        return now.allSums();
    }

    public int seek(int way) throws IllegalArgumentException, IllegalStateException {
        if (!isWay(way)) {
            throw new IllegalArgumentException("no such way to halve");
        }
        if (!now.canBeSearched()) {
            throw new IllegalStateException("no sums are told");
        }
        history.remember(now);
        herder.doSeek(way);
        return herder.search.looked;
    }

    public int trust(int v) throws IllegalArgumentException {
        if (v != 0 && v != 1) {
            throw new IllegalArgumentException("setting 0 is 0 or 1");
        }
        history.remember(now);
        int previous = now.trusted;
        now.trusted = v;
        return previous;
    }

    public int undo() throws IllegalStateException {
        if (history.count == 0) {
            throw new IllegalStateException("no state is remembered");
        }
        history.takeBack(now);
        return history.count;
    }

    // ---- what would be

    public int ifSought(int way, int what) throws IllegalArgumentException, IllegalStateException {
        if (!isWay(way)) {
            throw new IllegalArgumentException("no such way to halve");
        }
        if (what < 0 || what > 3) {
            throw new IllegalArgumentException("no such number of a search");
        }
        if (!now.canBeSearched()) {
            throw new IllegalStateException("no sums are told");
        }
        search.run(now, way);
        switch (what) {
            case 0:
                return search.looked;
            case 1:
                return Long.bitCount(search.found);
            case 2:
                return Long.bitCount(search.found & ~now.gone);
            default:
                return Long.bitCount(now.gone & ~search.found);
        }
    }

    public int bestWay() {
        if (!now.canBeSearched()) {
            return NONE;
        }
        int best = NONE;
        int fewest = 0;
        for (int way = 0; way < WAYS; way++) {
            search.run(now, way);
            if (best == NONE || search.looked < fewest) {
                best = way;
                fewest = search.looked;
            }
        }
        return best;
    }

    public int looks(int k, int way, int what) throws IndexOutOfBoundsException, IllegalArgumentException {
        if (!now.isBlock(k)) {
            throw new IndexOutOfBoundsException("no such block");
        }
        if (!isWay(way)) {
            throw new IllegalArgumentException("no such way to halve");
        }
        if (what != 0 && what != 1) {
            throw new IllegalArgumentException("no such number of looks");
        }
        planner.measure(now, k, way);
        return what == 0 ? planner.most : planner.weighted;
    }

    public int leastLooks(int k) throws IndexOutOfBoundsException {
        if (!now.isBlock(k)) {
            throw new IndexOutOfBoundsException("no such block");
        }
        return planner.least(now, k);
    }

    public int balanced(int n) throws IllegalArgumentException {
        if (!isFenceCount(n)) {
            throw new IllegalArgumentException("no such number of fences");
        }
        return now.evenBook(n);
    }

    public int canBe(int k) throws IndexOutOfBoundsException, IllegalStateException {
        if (!now.isBlock(k)) {
            throw new IndexOutOfBoundsException("no such block");
        }
        if (!now.told) {
            throw new IllegalStateException("no sums are told");
        }
        return subsetSums.reach(now, k, now.sum(k)) ? 1 : 0;
    }

    public int farthest() {
        if (!now.told) {
            return NONE;
        }
        int blocks = now.blocks();
        int doubted = NONE;
        int most = 0;
        for (int k = 0; k < blocks; k++) {
            int off = Math.abs(now.sum(k) - now.field(now.firstRow(k), now.firstRow(k + 1)));
            if (off > most) {
                doubted = k;
                most = off;
            }
        }
        return doubted;
    }

    // ---- scripts, simulations

    public int runScript(int n, long script) throws IllegalArgumentException {
        if (n < 1 || n > MOST_COMMANDS) {
            throw new IllegalArgumentException("no such number of commands");
        }
        if (script < 0 || script >= Script.end(n)) {
            throw new IllegalArgumentException("no such script");
        }
        trial.copyFrom(now);
        for (int i = 0; i < n; i++) {
            if (!Script.succeeds(trialHerder, Script.group(script, n - 1 - i))) {
                return i;
            }
        }
        return NONE;
    }

    public int simulate(long seed, int m) throws IllegalArgumentException {
        if (m < 1 || m > MOST_TURNS) {
            throw new IllegalArgumentException("no such number of turns");
        }
        trial.copyFrom(now);
        long x = seed;
        for (int i = 0; i < m; i++) {
            x = x * 6364136223846793005L + 1442695040888963407L;
            Simulation.takeTurn(trialHerder, (int) (x >>> 33));
        }
        int looks = trial.looksSoFar - now.looksSoFar;
        return 1000 * looks + 10 * Long.bitCount(trial.taken) + Math.min(trial.wrong, 9);
    }

    // ---- save slots

    public int save(int slot) throws IndexOutOfBoundsException {
        if (!isSlot(slot)) {
            throw new IndexOutOfBoundsException("no such save slot");
        }
        slots.keep(slot, now);
        return now.blocks();
    }

    public int restore(int slot) throws IndexOutOfBoundsException, IllegalStateException {
        if (!isSlot(slot)) {
            throw new IndexOutOfBoundsException("no such save slot");
        }
        if (!slots.holds(slot)) {
            throw new IllegalStateException("the save slot is empty");
        }
        slots.copyTo(slot, now);
        history.forgetAll();
        return now.blocks();
    }

    // ---- what is in range

    private static boolean isRow(int r) {
        return r >= 0 && r < ROWS;
    }

    private static boolean isPlace(int r) {
        return r >= 1 && r < ROWS;
    }

    private static boolean isWeight(int w) {
        return w >= 1 && w <= MOST_WEIGHT;
    }

    private static boolean isLie(int v) {
        return v >= -MOST_LIE && v <= MOST_LIE;
    }

    private static boolean isFenceCount(int n) {
        return n >= 1 && n <= MOST_FENCES;
    }

    private static boolean isWay(int way) {
        return way >= 0 && way < WAYS;
    }

    private static boolean isSlot(int slot) {
        return slot >= 0 && slot < SLOTS;
    }

    private static int bit(long rows, int r) {
        return (int) (rows >>> r & 1L);
    }

    /**
     * The state. Sets of rows are bits of a long, so that copying, counting and
     * comparing them takes no array.
     */
    private static final class Meadow {
        private final int[] weights = new int[ROWS];
        private final int[] losses = new int[ROWS];
        private final int[] lies = new int[MOST_BLOCKS];
        private final int[] sums = new int[MOST_BLOCKS];
        private long fences;
        private long gone;
        private long taken;
        private boolean told;
        private int trusted = 1;
        private int looksSoFar;
        private int wrong;
        private int missed;

        Meadow() {
            for (int r = 0; r < ROWS; r++) {
                weights[r] = 1;
            }
        }

        void copyFrom(Meadow other) {
            System.arraycopy(other.weights, 0, weights, 0, ROWS);
            System.arraycopy(other.losses, 0, losses, 0, ROWS);
            System.arraycopy(other.lies, 0, lies, 0, MOST_BLOCKS);
            System.arraycopy(other.sums, 0, sums, 0, MOST_BLOCKS);
            fences = other.fences;
            gone = other.gone;
            taken = other.taken;
            told = other.told;
            trusted = other.trusted;
            looksSoFar = other.looksSoFar;
            wrong = other.wrong;
            missed = other.missed;
        }

        int weight(int r) {
            return isRow(r) ? weights[r] : 0;
        }

        int loss(int r) {
            return isRow(r) ? losses[r] : 0;
        }

        int value(int r, int way) {
            switch (way) {
                case BY_WEIGHTS:
                    return weight(r);
                case BY_LOSSES:
                    return loss(r) + 1;
                default:
                    return 1;
            }
        }

        int lieOf(int k) {
            return k >= 0 && k < MOST_BLOCKS ? lies[k] : 0;
        }

        int sum(int k) {
            return k >= 0 && k < MOST_BLOCKS ? sums[k] : 0;
        }

        int blocks() {
            return Long.bitCount(fences) + 1;
        }

        boolean isBlock(int k) {
            return k >= 0 && k < blocks();
        }

        /** The first row of a block; behind the last block the end of all rows. */
        int firstRow(int k) {
            if (k <= 0) {
                return 0;
            }
            int fencesSeen = 0;
            for (int r = 1; r < ROWS; r++) {
                fencesSeen += bit(fences, r);
                if (fencesSeen == k) {
                    return r;
                }
            }
            return ROWS;
        }

        int blockAt(int r) {
            long upToRow = (2L << r) - 1;
            return Long.bitCount(fences & upToRow);
        }

        int book(int from, int end) {
            int book = 0;
            int last = Math.min(end, ROWS);
            for (int r = Math.max(from, 0); r < last; r++) {
                book += weights[r];
            }
            return book;
        }

        int field(int from, int end) {
            int field = 0;
            int last = Math.min(end, ROWS);
            for (int r = Math.max(from, 0); r < last; r++) {
                if (bit(gone, r) == 0) {
                    field += weights[r];
                }
            }
            return field;
        }

        int allLosses() {
            int all = 0;
            for (int r = 0; r < ROWS; r++) {
                all += losses[r];
            }
            return all;
        }

        int allSums() {
            int all = 0;
            for (int k = 0; k < MOST_BLOCKS; k++) {
                all += sums[k];
            }
            return all;
        }

        boolean canBeSearched() {
            return told || trusted == 0;
        }

        boolean fenceFits(int r, boolean put) {
            return isPlace(r) && (!put || bit(fences, r) == 1 || Long.bitCount(fences) < MOST_FENCES);
        }

        void setWeight(int r, int w) {
            if (isRow(r)) {
                weights[r] = w;
            }
        }

        void setGone(int r, boolean away) {
            gone = away ? gone | 1L << r : gone & ~(1L << r);
        }

        void setLie(int k, int v) {
            if (isBlock(k) && k < MOST_BLOCKS) {
                lies[k] = v;
            }
        }

        /** A fence that stays as it was leaves the sums and the lies. */
        void setFence(int r, boolean put) {
            long then = put ? fences | 1L << r : fences & ~(1L << r);
            if (then != fences) {
                replaceFences(then);
            }
        }

        void replaceFences(long then) {
            fences = then;
            told = false;
            for (int k = 0; k < MOST_BLOCKS; k++) {
                lies[k] = 0;
                sums[k] = 0;
            }
        }

        void tellSums() {
            told = true;
            int blocks = blocks();
            for (int k = 0; k < blocks && k < MOST_BLOCKS; k++) {
                sums[k] = field(firstRow(k), firstRow(k + 1)) + lies[k];
            }
        }

        void noteSearch(int looked, long found) {
            looksSoFar += looked;
            taken = found;
            wrong = Long.bitCount(found & ~gone);
            missed = Long.bitCount(gone & ~found);
            for (int r = 0; r < ROWS; r++) {
                losses[r] = Math.min(losses[r] + bit(found, r), MOST_LOSSES);
            }
        }

        /** The least that the greatest book of a block could be with n fences or fewer. */
        int evenBook(int n) {
            int tooLittle = 0;
            // More than all rows can weigh would fit, so 13 bits are enough.
            for (int step = 4096; step > 0; step = step >> 1) {
                if (!fits(tooLittle + step, n)) {
                    tooLittle += step;
                }
            }
            return tooLittle + 1;
        }

        private boolean fits(int book, int n) {
            for (int r = 0; r < ROWS; r++) {
                if (weights[r] > book) {
                    return false;
                }
            }
            return Long.bitCount(fencesFor(book)) <= n;
        }

        /** The fences if each block, from the first row on, gets what its book can take. */
        private long fencesFor(int most) {
            long then = 0L;
            int book = 0;
            for (int r = 0; r < ROWS; r++) {
                if (r > 0 && book + weights[r] > most) {
                    then |= 1L << r;
                    book = 0;
                }
                book += weights[r];
            }
            return then;
        }

        long evenFences(int n) {
            return fencesFor(evenBook(n));
        }
    }

    /** Where rows side by side are halved. */
    private static final class Halving {
        private final int[] before = new int[ROWS + 1];

        /** Must come ahead of all other calls, and again when the meadow is another. */
        void measure(Meadow meadow, int way) {
            for (int r = 0; r < ROWS; r++) {
                before[r + 1] = before[r] + meadow.value(r, way);
            }
        }

        int values(int from, int end) {
            return from >= 0 && from < end && end <= ROWS ? before[end] - before[from] : 0;
        }

        int place(int from, int end) {
            int all = values(from, end);
            int best = from + 1;
            int nearest = all;
            for (int m = from + 1; m < end; m++) {
                int gap = Math.abs(2 * values(from, m) - all);
                if (gap < nearest) {
                    best = m;
                    nearest = gap;
                }
            }
            return best;
        }
    }

    /** One search, which leaves the meadow as it is, and what it brought. */
    private static final class Search {
        private final Halving halving = new Halving();
        private Meadow meadow;
        private int looked;
        private long found;

        void run(Meadow searched, int way) {
            meadow = searched;
            looked = 0;
            found = 0L;
            halving.measure(searched, way);
            int blocks = searched.blocks();
            for (int k = 0; k < blocks; k++) {
                int first = searched.firstRow(k);
                int end = searched.firstRow(k + 1);
                int there = searched.sum(k);
                if (searched.trusted == 0) {
                    looked++;
                    there = searched.field(first, end);
                }
                int lacking = searched.book(first, end) - there;
                if (lacking > 0) {
                    searchRows(this, first, end, lacking, 0);
                }
            }
        }

        /** Each halving leaves fewer rows, so no search goes as deep as there are rows. */
        private static void searchRows(Search s, int from, int end, int lacking, int depth) {
            Meadow meadow = s.meadow;
            if (meadow == null || depth >= ROWS || from >= end) {
                return;
            }
            if (lacking == meadow.book(from, end)) {
                s.found |= rows(from, end);
                return;
            }
            s.looked++;
            if (end - from == 1) {
                s.found |= meadow.gone & 1L << from;
                return;
            }
            int middle = s.halving.place(from, end);
            int difference = meadow.book(from, middle) - meadow.field(from, middle);
            if (difference > 0) {
                searchRows(s, from, middle, difference, depth + 1);
            }
            if (lacking > difference) {
                searchRows(s, middle, end, lacking - difference, depth + 1);
            }
        }

        private static long rows(int from, int end) {
            return (1L << end) - (1L << from);
        }
    }

    /** How many looks it takes to find one row that is away in a block. */
    private static final class Planner {
        private static final int WIDTH = ROWS + 1;

        private final Halving halving = new Halving();
        private final int[] cost = new int[WIDTH * WIDTH];
        private int most;
        private int weighted;

        void measure(Meadow meadow, int k, int way) {
            int first = meadow.firstRow(k);
            int end = meadow.firstRow(k + 1);
            most = 0;
            weighted = 0;
            halving.measure(meadow, way);
            for (int r = first; r < end; r++) {
                int looked = looksFor(r, first, end);
                most = Math.max(most, looked);
                weighted += looked * (meadow.loss(r) + 1);
            }
        }

        /** The halvings until the row is alone: just its own weight is lacking, so it needs no look itself. */
        private int looksFor(int row, int first, int last) {
            int from = first;
            int end = last;
            for (int looked = 0; looked < ROWS; looked++) {
                if (end - from < 2) {
                    return looked;
                }
                int middle = halving.place(from, end);
                if (row < middle) {
                    end = middle;
                } else {
                    from = middle;
                }
            }
            return ROWS;
        }

        /**
         * The least cost of all trees over the block: that of each stretch from those
         * of the shorter ones. One row costs no look, so its cost is never set.
         */
        int least(Meadow meadow, int k) {
            int first = meadow.firstRow(k);
            int end = meadow.firstRow(k + 1);
            halving.measure(meadow, BY_LOSSES);
            for (int length = 2; length <= end - first; length++) {
                for (int from = first; from + length <= end; from++) {
                    setCost(from, from + length, leastSplit(from, from + length));
                }
            }
            return costOf(first, end);
        }

        private int leastSplit(int from, int end) {
            int least = costOf(from + 1, end);
            for (int m = from + 2; m < end; m++) {
                least = Math.min(least, costOf(from, m) + costOf(m, end));
            }
            return least + halving.values(from, end);
        }

        private static boolean isStretch(int from, int end) {
            return from >= 0 && from < end && end <= ROWS;
        }

        private int costOf(int from, int end) {
            return isStretch(from, end) ? cost[WIDTH * from + end] : 0;
        }

        private void setCost(int from, int end, int least) {
            if (isStretch(from, end)) {
                cost[WIDTH * from + end] = least;
            }
        }
    }

    /** Which sums the weights of some rows of a block can have: a bit for each sum. */
    private static final class SubsetSums {
        private static final int WORDS = ROWS * MOST_WEIGHT / 64 + 1;

        private final long[] bits = new long[WORDS];

        boolean reach(Meadow meadow, int k, int sum) {
            int first = meadow.firstRow(k);
            int end = meadow.firstRow(k + 1);
            if (sum < 0 || sum > meadow.book(first, end)) {
                return false;
            }
            for (int i = 0; i < WORDS; i++) {
                bits[i] = i == 0 ? 1L : 0L;
            }
            for (int r = first; r < end; r++) {
                addWeight(meadow.weight(r));
            }
            return (word(sum / 64) >>> sum % 64 & 1L) == 1L;
        }

        /** From the last word down, so that no weight is added twice. */
        private void addWeight(int weight) {
            int words = weight / 64;
            int rest = weight % 64;
            for (int i = WORDS - 1; i >= 0; i--) {
                long moved = word(i - words) << rest;
                if (rest > 0) {
                    moved |= word(i - words - 1) >>> 64 - rest;
                }
                bits[i] |= moved;
            }
        }

        private long word(int i) {
            return i >= 0 && i < WORDS ? bits[i] : 0L;
        }
    }

    /** The latest states ahead of actions, in a ring. */
    private static final class History {
        private final Meadow[] states = new Meadow[MOST_REMEMBERED];
        private int next;
        private int count;

        History() {
            for (int i = 0; i < MOST_REMEMBERED; i++) {
                states[i] = new Meadow();
            }
        }

        void forgetAll() {
            count = 0;
        }

        void remember(Meadow meadow) {
            Meadow state = state(next);
            if (state != null) {
                state.copyFrom(meadow);
                next = next == MOST_REMEMBERED - 1 ? 0 : next + 1;
                count = Math.min(count + 1, MOST_REMEMBERED);
            }
        }

        void takeBack(Meadow meadow) {
            int latest = next == 0 ? MOST_REMEMBERED - 1 : next - 1;
            Meadow state = state(latest);
            if (count > 0 && state != null) {
                meadow.copyFrom(state);
                next = latest;
                count--;
            }
        }

        private Meadow state(int i) {
            return i >= 0 && i < MOST_REMEMBERED ? states[i] : null;
        }
    }

    /** The save slots. */
    private static final class Slots {
        private final Meadow[] states = new Meadow[SLOTS];
        private final boolean[] full = new boolean[SLOTS];

        Slots() {
            for (int i = 0; i < SLOTS; i++) {
                states[i] = new Meadow();
            }
        }

        void emptyAll() {
            for (int i = 0; i < SLOTS; i++) {
                full[i] = false;
            }
        }

        boolean holds(int slot) {
            return isSlot(slot) && full[slot];
        }

        void keep(int slot, Meadow meadow) {
            if (isSlot(slot) && states[slot] != null) {
                states[slot].copyFrom(meadow);
                full[slot] = true;
            }
        }

        void copyTo(int slot, Meadow meadow) {
            if (holds(slot) && states[slot] != null) {
                meadow.copyFrom(states[slot]);
            }
        }
    }

    /** Does to a meadow what texts, scripts and simulations ask for, and answers whether it could be done. */
    private static final class Herder {
        private final Meadow meadow = new Meadow();
        private final Search search = new Search();

        boolean obey(int letter, int first, int second) {
            switch (letter) {
                case 'a':
                    return doAway(first, true);
                case 'c':
                    return doAway(first, false);
                case 'w':
                    return doWeigh(first, second);
                case 'f':
                    return doFence(first, true);
                case 'l':
                    return doLie(first, second - MOST_LIE);
                case 's':
                    return doSpread(first);
                case 'n':
                    return doTell();
                case 'k':
                    return doSeek(first);
                default:
                    return false;
            }
        }

        boolean doWeigh(int r, int w) {
            if (!isRow(r) || !isWeight(w)) {
                return false;
            }
            meadow.setWeight(r, w);
            return true;
        }

        boolean doAway(int r, boolean away) {
            if (!isRow(r)) {
                return false;
            }
            meadow.setGone(r, away);
            return true;
        }

        boolean doFence(int r, boolean put) {
            if (!meadow.fenceFits(r, put)) {
                return false;
            }
            meadow.setFence(r, put);
            return true;
        }

        boolean doSpread(int n) {
            if (!isFenceCount(n)) {
                return false;
            }
            meadow.replaceFences(meadow.evenFences(n));
            return true;
        }

        boolean doLie(int k, int v) {
            if (!meadow.isBlock(k) || !isLie(v)) {
                return false;
            }
            meadow.setLie(k, v);
            return true;
        }

        boolean doTell() {
            meadow.tellSums();
            return true;
        }

        boolean doSeek(int way) {
            if (!isWay(way) || !meadow.canBeSearched()) {
                return false;
            }
            search.run(meadow, way);
            meadow.noteSearch(search.looked, search.found);
            return true;
        }
    }

    /** The text buffer, and a reader that goes through it from left to right. */
    private static final class Text {
        private static final int LAST_ROW = ROWS - 1;

        private final char[] signs = new char[TEXT_ROOM];
        private int length;
        private int position;
        private int letter;
        private int first;
        private int second;

        boolean isFull() {
            return length >= TEXT_ROOM;
        }

        void add(char sign) {
            if (length >= 0 && length < TEXT_ROOM) {
                signs[length] = sign;
                length++;
            }
        }

        void empty() {
            length = 0;
        }

        void goBehindStart() {
            position = 1;
        }

        int firstError() {
            if (signAt(0) != 'M') {
                return 0;
            }
            goBehindStart();
            for (int i = 0; i < TEXT_ROOM && position < length; i++) {
                if (!readCommand()) {
                    return position;
                }
            }
            return NONE;
        }

        /** Goes past a command and keeps its parts; at an error it stops at the sign that is not allowed. */
        boolean readCommand() {
            letter = signAt(position);
            position++;
            switch (letter) {
                case 'a':
                case 'c':
                    return readFirst(2, 0, LAST_ROW);
                case 'w':
                    return readFirst(2, 0, LAST_ROW) && readSecond(2, 1, MOST_WEIGHT);
                case 'f':
                    return readFirst(2, 1, LAST_ROW);
                case 'l':
                    return readFirst(2, 0, MOST_BLOCKS - 1) && readSecond(1, 0, 2 * MOST_LIE);
                case 's':
                    return readFirst(2, 1, MOST_FENCES);
                case 'n':
                    return true;
                case 'k':
                    return readFirst(1, 0, WAYS - 1);
                default:
                    position--;
                    return false;
            }
        }

        private boolean readFirst(int digits, int low, int high) {
            first = readNumber(digits, low, high);
            return first != NONE;
        }

        private boolean readSecond(int digits, int low, int high) {
            second = readNumber(digits, low, high);
            return second != NONE;
        }

        private int readNumber(int digits, int low, int high) {
            int number = 0;
            for (int left = digits - 1; left >= 0; left--) {
                int sign = signAt(position);
                if (sign < '0' || sign > '9') {
                    return NONE;
                }
                number = 10 * number + sign - '0';
                int least = left == 0 ? number : 10 * number;
                int greatest = left == 0 ? number : 10 * number + 9;
                if (greatest < low || least > high) {
                    return NONE;
                }
                position++;
            }
            return number;
        }

        private int signAt(int i) {
            return i >= 0 && i < length && i < TEXT_ROOM ? signs[i] : NONE;
        }
    }

    /** Scripts of commands of five digits each. */
    private static final class Script {
        /** The least number that has too many digits for n commands. */
        static long end(int n) {
            long end = 1L;
            for (int i = 0; i < n; i++) {
                end *= GROUP;
            }
            return end;
        }

        static int group(long script, int groupsBehind) {
            long rest = script;
            for (int i = 0; i < groupsBehind; i++) {
                rest = rest / GROUP;
            }
            return (int) (rest % GROUP);
        }

        static boolean succeeds(Herder herder, int group) {
            Meadow meadow = herder.meadow;
            int which = group / 100 % 100;
            int fourth = group / 10 % 10;
            int fifth = group % 10;
            int lastTwo = group % 100;
            switch (group / 10000) {
                case 1:
                    return lastTwo < 2 && herder.doAway(which, fifth == 1);
                case 2:
                    return lastTwo < 2 && herder.doFence(which, fifth == 1);
                case 3:
                    return fourth == 0 && herder.doLie(which, fifth - MOST_LIE);
                case 4:
                    return which == 0 && lastTwo == 0 && herder.doTell();
                case 5:
                    return which == 0 && fourth == 0 && herder.doSeek(fifth);
                case 6:
                    return meadow.looksSoFar <= group % 10000;
                case 7:
                    return fourth == 0 && isRow(which) && bit(meadow.taken, which) == fifth;
                case 8:
                    return meadow.isBlock(which)
                            && meadow.firstRow(which + 1) - meadow.firstRow(which) >= lastTwo;
                case 9:
                    return which == 0 && meadow.missed <= lastTwo;
                default:
                    return false;
            }
        }
    }

    /** The turns of simulations. */
    private static final class Simulation {
        /** What can't be done is left out, so the herder's answers don't matter. */
        static void takeTurn(Herder herder, int r) {
            int q = r / 8;
            switch (r % 8) {
                case 0:
                case 1:
                    herder.doAway(q % 48, q / 48 % 3 != 0);
                    break;
                case 2:
                    herder.doWeigh(q % 48, 1 + q / 48 % 99);
                    break;
                case 3:
                    herder.doFence(1 + q % 47, q / 64 % 2 == 0);
                    break;
                case 4:
                    herder.doTell();
                    break;
                case 5:
                    lieOrTrust(herder, q);
                    break;
                default:
                    herder.doSeek(q % 3);
                    break;
            }
        }

        private static void lieOrTrust(Herder herder, int q) {
            if (q / 128 % 2 == 0) {
                herder.doLie(q % 12, q / 16 % 5 - 2);
            } else {
                herder.meadow.trusted = q % 2;
            }
        }
    }
}
