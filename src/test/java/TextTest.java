import java.util.List;

/** TEXT, and promises 2 to 5. */
public final class TextTest {
    static final List<String> SECTIONS = List.of("TEXT", "Promise 2", "Promise 3", "Promise 4", "Promise 5");

    private static final Checks CHECKS = new Checks();
    private static final int NONE = FencedRows.NONE;
    private static final String[] LETTERS = {"a", "c", "w", "f", "l", "s", "k"};

    public static void main(String[] args) throws Exception {
        Sentences s = new Sentences(CHECKS, SECTIONS);
        text(s);
        promises2And3(s);
        promises4And5(s);
        s.end();
    }

    private static void text(Sentences s) {
        s.in("TEXT");
        s.holds("The object has a text buffer of at most 120 characters.", TextTest::textOf120);
        s.holds("A meadow as a text is the letter M, and then any number of commands", TextTest::textOfCommands);
        s.holds("a row is two digits (00 to 47):", TextTest::textRows);
        s.holds("a and a row: away(), away", TextTest::textAway);
        s.holds("c and a row: away(), not away", TextTest::textComesBack);
        s.holds("w, a row, and two digits for a weight (01 to 99): weigh()", TextTest::textWeights);
        s.holds("f and two digits for a row (01 to 47): fence(), put", TextTest::textFences);
        s.holds("l, two digits for a block (00 to 11), and a digit (0 to 4): lie(), with the lie that is 2 less",
                TextTest::textLies);
        s.holds("s and two digits (01 to 11): spread()", TextTest::textSpreads);
        s.holds("n: tell()", TextTest::textTells);
        s.holds("k and a way (0 to 2): seek().", TextTest::textSeeks);
        s.holds("Commands that would throw an exception are left out.", TextTest::textLeavesOut);
        s.holds("There are no blanks.", TextTest::textBlanks);
        s.holds("The text is read from left to right.", TextTest::textFromLeftToRight);
        s.holds("The error position is the index of the first character that these rules do not allow at its place",
                TextTest::textErrors);
        s.holds("(a digit is not allowed if no number that is allowed begins with it and those before it)",
                TextTest::textDigits);
        s.holds("if the text ends too soon, it is the length of the text.", TextTest::textEndsTooSoon);
    }

    private static void promises2And3(Sentences s) {
        s.in("Promise 2");
        s.holds("Appends a character to the text buffer.", TextTest::promise2Appends);
        s.holds("c: character code, 0 to 255", TextTest::promise2Codes);
        s.holds("Returns the new length of the text.", TextTest::promise2Lengths);
        s.holds("Throws IllegalArgumentException if c is out of range", TextTest::promise2OutOfRange);
        s.holds("Throws IllegalStateException if the text already has 120 characters", TextTest::promise2Full);
        s.in("Promise 3");
        s.holds("Empties the text buffer.", TextTest::promise3Empties);
        s.holds("Returns the previous length of the text.", TextTest::promise3Lengths);
    }

    private static void promises4And5(Sentences s) {
        s.in("Promise 4");
        s.holds("Checks the text.", TextTest::promise4Keeps);
        s.holds("Returns the error position of the text; NONE if it is a meadow.", TextTest::promise4Returns);
        s.in("Promise 5");
        s.holds("Makes everything as in a new object", TextTest::promise5FromNew);
        s.holds("and then does the commands of the text.", TextTest::promise5Commands);
        s.holds("Behind it no state is remembered, and both save slots are empty.", TextTest::promise5Forgets);
        s.holds("Keeps the text, also if it throws the exception.", TextTest::promise5KeepsTheText);
        s.holds("Returns the number of commands that are left out.", TextTest::promise5LeftOut);
        s.holds("Throws IllegalStateException if the text is not a meadow", TextTest::promise5NoMeadow);
    }

    private static int error(String text) {
        return Meadows.typed(text).errorPosition();
    }

    private static int leftOut(String text) {
        return Meadows.typed(text).load();
    }

    /** M, and then as many characters as there are left. */
    private static FencedRows full() {
        return Meadows.typed("M" + "n".repeat(119));
    }

    // ---- TEXT

    private static void textOf120() {
        CHECKS.answers("120 characters", TextTest::full, FencedRows::errorPosition, NONE);
        CHECKS.answers("120 characters are a meadow", TextTest::full, FencedRows::load, 0);
        CHECKS.answers("their length", TextTest::full, FencedRows::clearText, 120);
        CHECKS.throwsState("one more", TextTest::full, x -> x.append('n'));
    }

    private static void textOfCommands() {
        CHECKS.is("no command", error("M"), NONE);
        CHECKS.is("one command", error("Mn"), NONE);
        CHECKS.is("all commands", error("Ma00c47w0001w4799f01f47l000l114s01s11nk0k1k2"), NONE);
        CHECKS.is("119 commands", error("M" + "n".repeat(119)), NONE);
        CHECKS.is("the last of 120 is none", error("M" + "n".repeat(118) + "M"), 119);
        CHECKS.is("empty", error(""), 0);
        CHECKS.is("a command first", error("n"), 0);
        CHECKS.is("m", error("m"), 0);
        CHECKS.is("M twice", error("MM"), 1);
    }

    /** Where the error is if a number of two digits has to be in a range. */
    private static int inRange(int number, int low, int high, int place) {
        if (number >= low && number <= high) {
            return NONE;
        }
        return number / 10 * 10 > high ? place : place + 1;
    }

    private static void twoDigits(String ahead, String behind, int low, int high) {
        for (int number = 0; number <= 99; number++) {
            String text = ahead + number / 10 + number % 10 + behind;
            CHECKS.is(text, error(text), inRange(number, low, high, ahead.length()));
        }
    }

    private static void oneDigit(String ahead, int high) {
        for (int digit = 0; digit <= 9; digit++) {
            CHECKS.is(ahead + digit, error(ahead + digit), digit <= high ? NONE : ahead.length());
        }
    }

    private static void textRows() {
        twoDigits("Ma", "", 0, 47);
        twoDigits("Mc", "", 0, 47);
        twoDigits("Mw", "01", 0, 47);
        twoDigits("Ma", "n", 0, 47);
    }

    private static void textAway() {
        CHECKS.is("a00", Meadows.loaded("Ma00").rowOf(0, 1), 1);
        CHECKS.is("a47", Meadows.loaded("Ma47").rowOf(47, 1), 1);
        CHECKS.is("a09", Meadows.loaded("Ma09").rowOf(9, 1), 1);
        CHECKS.is("the others", Meadows.loaded("Ma00a47a09").about(1), 3);
    }

    private static void textComesBack() {
        CHECKS.is("c47", Meadows.loaded("Ma47a46c47").rowOf(47, 1), 0);
        CHECKS.is("c00", Meadows.loaded("Ma00a46c00").rowOf(0, 1), 0);
        CHECKS.is("the other", Meadows.loaded("Ma00a46c00").about(1), 1);
        CHECKS.is("one that is there", leftOut("Mc05"), 0);
    }

    private static void textWeights() {
        twoDigits("Mw20", "", 1, 99);
        CHECKS.is("w0001", Meadows.loaded("Mw0002w0001").rowOf(0, 0), 1);
        CHECKS.is("w4799", Meadows.loaded("Mw4799").rowOf(47, 0), 99);
        CHECKS.is("w0530", Meadows.loaded("Mw0530").rowOf(5, 0), 30);
    }

    private static void textFences() {
        twoDigits("Mf", "", 1, 47);
        CHECKS.is("f01", Meadows.loaded("Mf01").blockOf(1, 0), 1);
        CHECKS.is("f47", Meadows.loaded("Mf47").blockOf(1, 0), 47);
        CHECKS.is("both", Meadows.loaded("Mf47f01").about(0), 3);
        CHECKS.is("one that stands keeps sums", Meadows.loaded("Mf01nf01").about(4), 1);
    }

    private static void textLies() {
        twoDigits("Ml", "0", 0, 11);
        oneDigit("Ml00", 4);
        for (int digit = 0; digit <= 4; digit++) {
            CHECKS.is("l00" + digit, Meadows.loaded("Ml00" + digit).blockOf(0, 4), digit - 2);
            CHECKS.is("l11" + digit, Meadows.loaded("Ms11l11" + digit).blockOf(11, 4), digit - 2);
        }
    }

    private static void textSpreads() {
        twoDigits("Ms", "", 1, 11);
        for (int n = 1; n <= 11; n++) {
            int most = (48 + n) / (n + 1);
            FencedRows x = Meadows.loaded("Ms" + n / 10 + n % 10);
            CHECKS.is("blocks of s " + n, x.about(0), (48 + most - 1) / most);
            CHECKS.is("the second block of s " + n, x.blockOf(1, 0), most);
        }
        CHECKS.is("s takes sums", Meadows.loaded("Ms01ns01").about(4), 0);
    }

    private static void textTells() {
        CHECKS.is("without n", Meadows.loaded("M").about(4), 0);
        CHECKS.is("with n", Meadows.loaded("Mn").about(4), 1);
        CHECKS.is("by who is away there", Meadows.loaded("Ma03na04").blockOf(0, 5), 47);
        CHECKS.is("and by the lie there", Meadows.loaded("Ml000nl004").blockOf(0, 5), 46);
    }

    private static void textSeeks() {
        oneDigit("Mk", 2);
        String uneven = "Mf04w0309a03n";
        CHECKS.is("looks of k0", Meadows.loaded(uneven + "k0").about(5), 2);
        CHECKS.is("looks of k1", Meadows.loaded(uneven + "k1").about(5), 1);
        CHECKS.is("looks of k2, without losses", Meadows.loaded(uneven + "k2").about(5), 2);
        CHECKS.is("looks of k2, with losses", Meadows.loaded(uneven + "k1k1k2").about(5), 1 + 1 + 1);
    }

    private static void textLeavesOut() {
        CHECKS.is("searches without sums", leftOut("Mk0k1k2"), 3);
        CHECKS.is("a lie of a block that is not there", leftOut("Ml010"), 1);
        CHECKS.is("the twelfth fence", leftOut("Mf01f02f03f04f05f06f07f08f09f10f11f12"), 1);
        FencedRows x = Meadows.loaded("Mf01f02f03f04f05f06f07f08f09f10f11f12f47a02");
        CHECKS.is("the fences ahead of it", x.about(0), 12);
        CHECKS.is("the last block", x.blockOf(11, 0), 11);
        CHECKS.is("the command behind it", x.about(1), 1);
        CHECKS.is("a search without sums is none", Meadows.loaded("Ma01k0").about(6), 0);
        CHECKS.is("a lie of no block is none", Meadows.loaded("Ml010").blockOf(0, 4), 0);
    }

    private static void textBlanks() {
        CHECKS.is("ahead of M", error(" M"), 0);
        CHECKS.is("behind M", error("M "), 1);
        CHECKS.is("between commands", error("Mn n"), 2);
        CHECKS.is("behind a letter", error("Ma 01"), 2);
        CHECKS.is("for a digit", error("Ma0 "), 3);
        CHECKS.is("at the end", error("Mn "), 2);
        CHECKS.is("a tab", error("M\tn"), 1);
        CHECKS.is("a line's end", error("Mn\n"), 2);
    }

    private static void textFromLeftToRight() {
        CHECKS.is("the later weight", Meadows.loaded("Mw0007w0009").rowOf(0, 0), 9);
        CHECKS.is("a and c", Meadows.loaded("Ma05c05").about(1), 0);
        CHECKS.is("c and a", Meadows.loaded("Mc05a05").about(1), 1);
        CHECKS.is("a lie ahead of its fence", leftOut("Ml010f20"), 1);
        CHECKS.is("a lie behind its fence", leftOut("Mf20l010"), 0);
        CHECKS.is("of two errors the first", error("Mxy"), 1);
    }

    private static void textErrors() {
        for (int c = 0; c <= 255; c++) {
            FencedRows x = new FencedRows();
            x.append(c);
            CHECKS.is("code " + c + " alone", x.errorPosition(), c == 'M' ? NONE : 0);
            FencedRows y = Meadows.typed("M");
            y.append(c);
            boolean letter = "acwflsk".indexOf(c) >= 0;
            CHECKS.is("code " + c + " behind M", y.errorPosition(), c == 'n' ? NONE : letter ? 2 : 1);
        }
        CHECKS.is("behind a command", error("Mnx"), 2);
        CHECKS.is("a digit for a letter", error("Mk01"), 3);
        CHECKS.is("a third digit of a row", error("Ma011"), 4);
    }

    private static void textDigits() {
        for (String letter : LETTERS) {
            CHECKS.is("a letter behind " + letter, error("M" + letter + "n"), 2);
            CHECKS.is("the sign below 0 behind " + letter, error("M" + letter + "/"), 2);
            CHECKS.is("the sign above 9 behind " + letter, error("M" + letter + ":"), 2);
            CHECKS.is("a wide sign behind " + letter, error("M" + letter + (char) 0xb2), 2);
        }
        CHECKS.is("a letter for the second digit", error("Ma0n"), 3);
        CHECKS.is("40 to 49, the row 47", error("Ma47"), NONE);
        CHECKS.is("40 to 49, no row 48", error("Ma48"), 3);
        CHECKS.is("no row with 5", error("Ma50"), 2);
        CHECKS.is("no row with 5, alone", error("Ma5"), 2);
        CHECKS.is("no weight 00", error("Mw0000"), 5);
        CHECKS.is("no fence ahead of 00", error("Mf00"), 3);
        CHECKS.is("no block 12", error("Ml12"), 3);
        CHECKS.is("no block with 2", error("Ml2"), 2);
        CHECKS.is("no lie 5", error("Ml115"), 4);
        CHECKS.is("no spread of 00", error("Ms00"), 3);
        CHECKS.is("no spread of 12", error("Ms12"), 3);
        CHECKS.is("no spread with 2", error("Ms2"), 2);
        CHECKS.is("no way 3", error("Mk3"), 2);
    }

    private static void textEndsTooSoon() {
        CHECKS.is("ahead of M", error(""), 0);
        for (String cut : new String[] {"Ma", "Ma0", "Mc", "Mc4", "Mw", "Mw4", "Mw47", "Mw479", "Mf", "Mf4", "Ml",
                "Ml1", "Ml11", "Ms", "Ms1", "Mk", "Mna", "Ma01w"}) {
            CHECKS.is(cut, error(cut), cut.length());
        }
        CHECKS.is("with 120 characters", error("M" + "n".repeat(118) + "k"), 120);
        CHECKS.is("with 120 characters, one digit", error("M" + "n".repeat(117) + "a0"), 120);
    }

    // ---- promises 2 and 3

    private static void promise2Appends() {
        FencedRows x = new FencedRows();
        x.append('M');
        CHECKS.is("M", x.errorPosition(), NONE);
        x.append('k');
        CHECKS.is("Mk", x.errorPosition(), 2);
        x.append('2');
        CHECKS.is("Mk2", x.errorPosition(), NONE);
        x.append('2');
        CHECKS.is("Mk22", x.errorPosition(), 3);
    }

    private static void promise2Codes() {
        FencedRows x = new FencedRows();
        CHECKS.is("code 0", x.append(0), 1);
        CHECKS.is("code 255", x.append(255), 2);
        CHECKS.is("code 128", x.append(128), 3);
        CHECKS.throwsArgument("code -1", () -> Meadows.typed("Mn"), y -> y.append(-1));
        CHECKS.throwsArgument("code 256", () -> Meadows.typed("Mn"), y -> y.append(256));
    }

    private static void promise2Lengths() {
        FencedRows x = new FencedRows();
        for (int i = 1; i <= 120; i++) {
            CHECKS.is("character " + i, x.append('n'), i);
        }
        x.clearText();
        CHECKS.is("the first again", x.append('M'), 1);
    }

    private static void promise2OutOfRange() {
        for (int wrong : new int[] {-1, 256, Integer.MIN_VALUE, Integer.MAX_VALUE, 256 + 'n', 'n' - 256, 65536 + 'n'}) {
            CHECKS.throwsArgument("append(" + wrong + ")", () -> Meadows.typed("Mn"), x -> x.append(wrong));
        }
        CHECKS.throwsArgument("append(256) to a full text", TextTest::full, x -> x.append(256));
        CHECKS.throwsArgument("append(-1) to a full text", TextTest::full, x -> x.append(-1));
    }

    private static void promise2Full() {
        CHECKS.answers("the last place", () -> Meadows.typed("M" + "n".repeat(118)), x -> x.append('n'), 120);
        CHECKS.throwsState("none is left", TextTest::full, x -> x.append('n'));
        CHECKS.throwsState("none is left for code 0", TextTest::full, x -> x.append(0));
        CHECKS.throwsState("none is left for code 255", TextTest::full, x -> x.append(255));
        FencedRows x = full();
        x.clearText();
        CHECKS.is("emptied", x.append('M'), 1);
        FencedRows loaded = full();
        loaded.load();
        CHECKS.same("load empties no text", Checks.thrown(loaded, y -> y.append('n')),
                IllegalStateException.class.getName());
    }

    private static void promise3Empties() {
        FencedRows x = Meadows.typed("Mnn");
        x.clearText();
        CHECKS.is("it is no meadow", x.errorPosition(), 0);
        Meadows.type(x, "M");
        CHECKS.is("nothing old stands behind the new", x.errorPosition(), NONE);
        CHECKS.is("nothing old is done", x.load() + x.about(4), 0);
        CHECKS.answers("what is empty stays so", FencedRows::new, y -> y.clearText() + y.errorPosition(), 0);
    }

    private static void promise3Lengths() {
        CHECKS.answers("of a new object", FencedRows::new, FencedRows::clearText, 0);
        CHECKS.answers("of three characters", () -> Meadows.typed("Mnn"), FencedRows::clearText, 3);
        CHECKS.answers("of 120", TextTest::full, FencedRows::clearText, 120);
        FencedRows x = Meadows.typed("Mn");
        x.clearText();
        CHECKS.is("a second time", x.clearText(), 0);
    }

    // ---- promises 4 and 5

    private static void promise4Keeps() {
        CHECKS.keeps("a meadow", Meadows::lived, FencedRows::errorPosition);
        CHECKS.keeps("no meadow", () -> Meadows.typed("Ma4x"), FencedRows::errorPosition);
        CHECKS.keeps("no text", FencedRows::new, FencedRows::errorPosition);
        FencedRows x = Meadows.typed("Mna01k0");
        x.errorPosition();
        CHECKS.is("no command is done", x.about(4) + x.about(1), 0);
        CHECKS.is("the same again", x.errorPosition(), NONE);
    }

    private static void promise4Returns() {
        CHECKS.is("a meadow", error("Mna01k0"), NONE);
        CHECKS.is("commands that would be left out", error("Mk0l110"), NONE);
        CHECKS.is("index 0", error("x"), 0);
        CHECKS.is("the last index", error("Mna01k9"), 6);
        CHECKS.is("the length", error("Mna01k"), 6);
    }

    private static void promise5FromNew() {
        FencedRows x = Meadows.lived();
        x.clearText();
        x.append('M');
        CHECKS.is("load of M", x.load(), 0);
        CHECKS.same("the state", Checks.seen(x), Checks.seen(new FencedRows()));
        FencedRows y = Meadows.lived();
        y.load();
        CHECKS.same("the state of the text", Checks.seen(y), Checks.seen(Meadows.loaded("Mw0507a06s02n")));
        CHECKS.is("setting 0", y.about(9), 1);
    }

    private static void promise5Commands() {
        FencedRows x = Meadows.typed("Mw0599a03a47c47f10f20l012l104l000n");
        CHECKS.is("nothing but a lie is left out", x.load(), 1);
        FencedRows due = new FencedRows();
        due.weigh(5, 99);
        due.away(3, true);
        due.fence(10, true);
        due.fence(20, true);
        due.lie(0, -2);
        due.tell();
        CHECKS.same("the same by calls", Checks.seen(x), Checks.seen(due));
        FencedRows y = Meadows.loaded("Ms03a05a40nk0c05k1k2");
        FencedRows same = new FencedRows();
        same.spread(3);
        same.away(5, true);
        same.away(40, true);
        same.tell();
        same.seek(0);
        same.away(5, false);
        same.seek(1);
        same.seek(2);
        CHECKS.same("searches by calls", Checks.seen(y), Checks.seen(same));
    }

    private static void promise5Forgets() {
        FencedRows x = Meadows.lived();
        x.load();
        CHECKS.same("undo", Checks.thrown(x, FencedRows::undo), IllegalStateException.class.getName());
        CHECKS.same("slot 0", Checks.thrown(x, y -> y.restore(0)), IllegalStateException.class.getName());
        CHECKS.same("slot 1", Checks.thrown(x, y -> y.restore(1)), IllegalStateException.class.getName());
        x.away(9, true);
        CHECKS.is("an action behind it is remembered", x.undo(), 0);
        CHECKS.is("undo leads back to it", x.rowOf(9, 1), 0);
        x.save(1);
        CHECKS.is("saved behind it", x.restore(1), 3);
    }

    private static void promise5KeepsTheText() {
        FencedRows x = Meadows.typed("Ma01");
        x.load();
        CHECKS.is("its length", x.append('n'), 5);
        x.load();
        CHECKS.is("both commands", x.about(1) + x.about(4), 2);
        CHECKS.throwsState("no meadow", () -> Meadows.typed("Ma01x"), FencedRows::load);
        FencedRows y = Meadows.typed("Ma0");
        CHECKS.same("too short", Checks.thrown(y, FencedRows::load), IllegalStateException.class.getName());
        CHECKS.is("its length then", y.append('7'), 4);
        y.load();
        CHECKS.is("its command then", y.rowOf(7, 1), 1);
    }

    private static void promise5LeftOut() {
        CHECKS.is("no command", leftOut("M"), 0);
        CHECKS.is("none of some", leftOut("Ma01nk0"), 0);
        for (String done : new String[] {"a00", "c47", "w0001", "f47", "l004", "s01", "s11", "n", "nk0", "nk2"}) {
            CHECKS.is("not " + done, leftOut("M" + done), 0);
        }
        CHECKS.is("also what changes nothing is done", leftOut("Mc01w0101"), 0);
        CHECKS.is("some", leftOut("Mk0a01k1nk2l010"), 3);
        CHECKS.is("all", leftOut("Mk0l010"), 2);
        CHECKS.is("all of 59", leftOut("M" + "k0".repeat(59)), 59);
        FencedRows x = Meadows.typed("Mk0");
        x.load();
        CHECKS.is("again", x.load(), 1);
    }

    private static void promise5NoMeadow() {
        FencedRows lived = Meadows.lived();
        CHECKS.is("the text of a meadow that has lived", lived.errorPosition(), NONE);
        CHECKS.throwsState("no text", TextTest::livedWithoutText, FencedRows::load);
        for (String wrong : new String[] {"x", "Mx", "Ma0", "Mk3", "nM", "Mn ", "Mf00", "Mw0000"}) {
            CHECKS.throwsState(wrong, () -> {
                FencedRows x = livedWithoutText();
                Meadows.type(x, wrong);
                return x;
            }, FencedRows::load);
        }
        CHECKS.throwsState("120 characters, the last too much", () -> Meadows.typed("M" + "n".repeat(118) + "a"),
                FencedRows::load);
    }

    private static FencedRows livedWithoutText() {
        FencedRows x = Meadows.lived();
        x.clearText();
        return x;
    }
}
