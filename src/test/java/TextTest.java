/** Promises 2 to 5. */
public final class TextTest {
    private static final Checks CHECKS = new Checks();

    public static void main(String[] args) {
        promise2Append();
        promise3ClearText();
        promise4Errors();
        promise4NumbersInRange();
        promise4EachCharacter();
        promise5Commands();
        promise5LeavesOut();
        promise5FromNew();
        promise5Throws();
        CHECKS.end();
    }

    private static void promise2Append() {
        FencedRows x = new FencedRows();
        CHECKS.is("2: the first character", x.append('M'), 1);
        CHECKS.is("2: code 0", x.append(0), 2);
        CHECKS.is("2: code 255", x.append(255), 3);
        for (int wrong : new int[] {-1, 256, Integer.MIN_VALUE, Integer.MAX_VALUE, 256 + 'n'}) {
            CHECKS.throwsArgument("2: append(" + wrong + ")", x, () -> x.append(wrong));
        }
        CHECKS.is("2: a call that threw left the length", x.append('x'), 4);
        for (int i = 5; i <= 120; i++) {
            CHECKS.is("2: character " + i, x.append('n'), i);
        }
        CHECKS.throwsState("2: character 121", x, () -> x.append('n'));
        CHECKS.throwsArgument("2: full, and no such code", x, () -> x.append(256));
        CHECKS.is("2: still 120", x.clearText(), 120);
    }

    private static void promise3ClearText() {
        FencedRows x = new FencedRows();
        CHECKS.is("3: of a new object", x.clearText(), 0);
        Checks.type(x, "Mnn");
        CHECKS.is("3: three characters", x.clearText(), 3);
        CHECKS.is("3: then none", x.clearText(), 0);
        CHECKS.is("3: an empty text is no meadow", x.errorPosition(), 0);
        CHECKS.is("3: the next is the first again", x.append('M'), 1);
        CHECKS.is("3: nothing old stands behind it", x.errorPosition(), FencedRows.NONE);
    }

    private static int error(String text) {
        FencedRows x = new FencedRows();
        Checks.type(x, text);
        return x.errorPosition();
    }

    private static void promise4Errors() {
        CHECKS.is("4: empty", error(""), 0);
        CHECKS.is("4: M", error("M"), FencedRows.NONE);
        CHECKS.is("4: m", error("m"), 0);
        CHECKS.is("4: a command first", error("n"), 0);
        CHECKS.is("4: a blank first", error(" M"), 0);
        CHECKS.is("4: a blank", error("M n"), 1);
        CHECKS.is("4: M twice", error("MM"), 1);
        CHECKS.is("4: an unknown letter behind a command", error("Mnx"), 2);
        CHECKS.is("4: a capital letter", error("MN"), 1);
        CHECKS.is("4: a digit for a letter", error("Mk01"), 3);
        CHECKS.is("4: all commands", error("Ma00c47w0001w4799f01f47l000l114s01s11nk0k1k2"), FencedRows.NONE);
        for (String cut : new String[] {"Ma", "Ma0", "Mc4", "Mw", "Mw0", "Mw47", "Mw479", "Mf", "Mf4", "Ml", "Ml1",
                "Ml11", "Ms", "Ms1", "Mk"}) {
            CHECKS.is("4: too short, " + cut, error(cut), cut.length());
        }
        for (String letter : new String[] {"a", "c", "w", "f", "l", "s", "k"}) {
            CHECKS.is("4: no digit behind " + letter, error("M" + letter + "n"), 2);
            CHECKS.is("4: sign below 0 behind " + letter, error("M" + letter + "/"), 2);
            CHECKS.is("4: sign above 9 behind " + letter, error("M" + letter + ":"), 2);
        }
        CHECKS.is("4: no second digit", error("Ma0n"), 3);
    }

    private static void promise4NumbersInRange() {
        for (int number = 0; number <= 99; number++) {
            String two = String.format("%02d", number);
            CHECKS.is("4: a" + two, error("Ma" + two), inRange(number, 0, 47, 2));
            CHECKS.is("4: c" + two, error("Mc" + two), inRange(number, 0, 47, 2));
            CHECKS.is("4: w" + two, error("Mw" + two + "01"), inRange(number, 0, 47, 2));
            CHECKS.is("4: w20" + two, error("Mw20" + two), inRange(number, 1, 99, 4));
            CHECKS.is("4: f" + two, error("Mf" + two), inRange(number, 1, 47, 2));
            CHECKS.is("4: l" + two, error("Ml" + two + "0"), inRange(number, 0, 11, 2));
            CHECKS.is("4: s" + two, error("Ms" + two), inRange(number, 1, 11, 2));
        }
        for (int digit = 0; digit <= 9; digit++) {
            CHECKS.is("4: k" + digit, error("Mk" + digit), digit <= 2 ? FencedRows.NONE : 2);
            CHECKS.is("4: l00" + digit, error("Ml00" + digit), digit <= 4 ? FencedRows.NONE : 4);
        }
    }

    /** The first digit is wrong if no number with it is in the range, otherwise the second. */
    private static int inRange(int number, int low, int high, int place) {
        if (number >= low && number <= high) {
            return FencedRows.NONE;
        }
        return number / 10 * 10 > high ? place : place + 1;
    }

    private static void promise4EachCharacter() {
        for (int c = 0; c <= 255; c++) {
            FencedRows x = new FencedRows();
            x.append('M');
            x.append(c);
            boolean letter = "acwflsk".indexOf(c) >= 0;
            CHECKS.is("4: code " + c, x.errorPosition(), c == 'n' ? FencedRows.NONE : letter ? 2 : 1);
        }
        FencedRows full = new FencedRows();
        full.append('M');
        for (int i = 0; i < 119; i++) {
            full.append('n');
        }
        CHECKS.is("4: 120 characters", full.errorPosition(), FencedRows.NONE);
        FencedRows open = new FencedRows();
        Checks.type(open, "M" + "n".repeat(117) + "a0");
        CHECKS.is("4: 120 characters that end too soon", open.errorPosition(), 120);
    }

    private static void promise5Commands() {
        FencedRows x = new FencedRows();
        Checks.type(x, "Mw0599a03a47c47f10f20l012l104l000n");
        CHECKS.is("5: nothing but a lie is left out", x.load(), 1);
        CHECKS.is("5: w", x.rowOf(5, 0), 99);
        CHECKS.is("5: a", x.rowOf(3, 1), 1);
        CHECKS.is("5: a and c", x.rowOf(47, 1), 0);
        CHECKS.is("5: one row is away", x.about(1), 1);
        CHECKS.is("5: f", x.about(0), 3);
        CHECKS.is("5: the first fence", x.blockOf(1, 0), 10);
        CHECKS.is("5: the second fence", x.blockOf(2, 0), 20);
        CHECKS.is("5: l, digit 0", x.blockOf(0, 4), -2);
        CHECKS.is("5: l, digit 2", x.blockOf(1, 4), 0);
        CHECKS.is("5: n", x.about(4), 1);
        CHECKS.is("5: the sum of a lie", x.blockOf(0, 5), 98 + 10 - 1 - 2);
        CHECKS.is("5: lies of digits 1, 3 and 4", lies(Checks.loaded("Mf10f20l001l013l024")), -1 + 10 + 200);
        FencedRows s = new FencedRows();
        Checks.type(s, "Ms03");
        CHECKS.is("5: s is not left out", s.load(), 0);
        CHECKS.is("5: s", s.about(0), 4);
        CHECKS.is("5: s spreads evenly", s.blockOf(1, 0), 12);
        FencedRows k = new FencedRows();
        Checks.type(k, "Ma01nk0");
        CHECKS.is("5: a, n and k are not left out", k.load(), 0);
        CHECKS.is("5: k is an action", k.about(6), 1);
        CHECKS.is("5: k adds losses", k.rowOf(1, 2), 1);
        CHECKS.is("5: k counts looks", k.about(5) > 0 ? 1 : 0, 1);
    }

    private static int lies(FencedRows x) {
        return x.blockOf(0, 4) + 10 * x.blockOf(1, 4) + 100 * x.blockOf(2, 4);
    }

    private static void promise5LeavesOut() {
        FencedRows x = new FencedRows();
        Checks.type(x, "Mk0k1k2l010nk0");
        CHECKS.is("5: three searches without sums, a lie of no block", x.load(), 4);
        x.clearText();
        Checks.type(x, "Mf01f02f03f04f05f06f07f08f09f10f11f12f11f47");
        CHECKS.is("5: the twelfth fence, also again elsewhere", x.load(), 2);
        CHECKS.is("5: twelve blocks", x.about(0), 12);
        CHECKS.is("5: the text is kept", x.clearText(), 43);
        x.append('M');
        CHECKS.is("5: no command, none left out", x.load(), 0);
        CHECKS.is("5: left to right", Checks.loaded("Mw0001w0002").rowOf(0, 0), 2);
    }

    private static void promise5FromNew() {
        FencedRows x = new FencedRows();
        x.weigh(3, 30);
        x.away(4, true);
        x.fence(9, true);
        x.lie(1, 2);
        x.tell();
        x.seek(1);
        x.trust(0);
        x.save(0);
        x.save(1);
        x.append('M');
        FencedRows fresh = new FencedRows();
        fresh.append('M');
        CHECKS.is("5: load of M", x.load(), 0);
        CHECKS.same("5: as in a new object", Checks.seen(x), Checks.seen(fresh));
        CHECKS.throwsState("5: no state is remembered", x, x::undo);
        CHECKS.throwsState("5: slot 0 is empty", x, () -> x.restore(0));
        CHECKS.throwsState("5: slot 1 is empty", x, () -> x.restore(1));
        x.clearText();
        Checks.type(x, "Ma01a02a03nk0");
        x.load();
        CHECKS.throwsState("5: commands are not remembered", x, x::undo);
        x.away(9, true);
        CHECKS.is("5: an action behind it is", x.undo(), 0);
        CHECKS.is("5: undo leads back to it", x.about(1), 3);
    }

    private static void promise5Throws() {
        FencedRows x = new FencedRows();
        x.away(7, true);
        x.save(1);
        CHECKS.throwsState("5: empty text", x, x::load);
        Checks.type(x, "Ma01x");
        CHECKS.throwsState("5: no meadow", x, x::load);
        CHECKS.is("5: keeps the text when it throws", x.errorPosition(), 4);
        CHECKS.is("5: keeps its length", x.clearText(), 5);
        Checks.type(x, "Ma0");
        CHECKS.throwsState("5: too short", x, x::load);
        CHECKS.is("5: keeps the slots when it throws", x.restore(1), 1);
        FencedRows y = new FencedRows();
        y.away(7, true);
        CHECKS.throwsState("5: empty text again", y, y::load);
        CHECKS.is("5: keeps what is remembered when it throws", y.undo(), 0);
    }
}
