import java.util.List;
import java.util.Set;
import java.util.TreeSet;
import java.util.stream.Collectors;
import java.util.stream.Stream;

/** What stands ahead of the Terms, and that each section of the document has its tests. */
public final class DocumentTest {
    private static final Checks CHECKS = new Checks();

    public static void main(String[] args) throws Exception {
        if (Sentences.isThere()) {
            sectionsHaveTests();
        }
        for (int way = 0; way <= 2; way++) {
            callsUpTo512(way);
        }
        CHECKS.end();
    }

    private static void sectionsHaveTests() throws Exception {
        Set<String> tested = Stream.of(TermsTest.SECTIONS, SearchTest.SECTIONS, TextTest.SECTIONS, UndoTest.SECTIONS,
                ExceptionsTest.SECTIONS, StateTest.SECTIONS, ActionsTest.SECTIONS, WouldBeTest.SECTIONS,
                ScriptsTest.SECTIONS, SlotsTest.SECTIONS).flatMap(List::stream).collect(Collectors.toSet());
        CHECKS.same("the sections that are tested", new TreeSet<>(tested), new TreeSet<>(Sentences.names()));
    }

    /** An object is used for at most 512 calls: the last of them answers like the first, behind the dearest. */
    private static void callsUpTo512(int way) {
        FencedRows x = new FencedRows();
        int calls = 0;
        for (int r = 0; r < 48; r += 2) {
            x.away(r, true);
            calls++;
        }
        x.trust(0);
        calls++;
        int looks = 0;
        for (; calls < 508; calls++) {
            looks += x.seek(way);
        }
        CHECKS.is("call 509, all looks by way " + way, x.about(5), looks);
        CHECKS.is("call 510, the latest search", x.about(6), 24);
        CHECKS.is("call 511, the losses", x.about(10), 24 * 99);
        CHECKS.is("call 512, undo", x.undo(), 13);
    }
}
