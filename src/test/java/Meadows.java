/** Objects that tests begin with. */
final class Meadows {
    static void type(FencedRows x, String text) {
        for (int i = 0; i < text.length(); i++) {
            x.append(text.charAt(i));
        }
    }

    static FencedRows typed(String text) {
        FencedRows x = new FencedRows();
        type(x, text);
        return x;
    }

    static FencedRows loaded(String text) {
        FencedRows x = typed(text);
        x.load();
        return x;
    }

    /** As many rows as there are weights, in a block of their own at the front. */
    static FencedRows front(int... weights) {
        FencedRows x = new FencedRows();
        x.fence(weights.length, true);
        for (int r = 0; r < weights.length; r++) {
            x.weigh(r, weights[r]);
        }
        return x;
    }

    /** As many fences as there can be, ahead of the rows 1 to 11. */
    static FencedRows fullOfFences() {
        FencedRows x = new FencedRows();
        for (int r = 1; r <= 11; r++) {
            x.fence(r, true);
        }
        return x;
    }

    /** A meadow in which nothing is as in a new object: row 3 was taken wrongly, and row 35 was missed. */
    static FencedRows lived() {
        FencedRows x = typed("Mw0507a06s02n");
        x.fence(4, true);
        x.fence(30, true);
        x.weigh(2, 2);
        x.away(1, true);
        x.lie(0, -1);
        x.tell();
        x.save(0);
        x.away(35, true);
        x.seek(2);
        x.away(2, true);
        x.lie(2, 1);
        x.trust(0);
        x.save(1);
        x.weigh(40, 60);
        return x;
    }

    static FencedRows allAway() {
        FencedRows x = new FencedRows();
        for (int r = 0; r < 48; r++) {
            x.away(r, true);
        }
        return x;
    }

    /** Four rows that weigh 1, 1, 1 and 9, of which the last is away and told. */
    static FencedRows uneven() {
        FencedRows x = front(1, 1, 1, 9);
        x.away(3, true);
        x.tell();
        return x;
    }
}
