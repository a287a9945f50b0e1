import java.io.IOException;
import java.nio.file.Files;
import java.nio.file.Path;
import java.util.ArrayList;
import java.util.Arrays;
import java.util.LinkedHashMap;
import java.util.List;
import java.util.Map;
import java.util.Set;

/**
 * Tests of single sentences, each told by the words of the document that it
 * tests. A sentence that is not there, and words that no test tells, are wrong.
 * Where there is no document the tests are made all the same.
 */
final class Sentences {
    private static final Path DOCUMENT = Path.of("../shared/DOC.md");

    /** A section of the document, and which of its characters tests have told. */
    private static final class Section {
        private final String words;
        private final boolean[] told;

        Section(String words) {
            this.words = words;
            told = new boolean[words.length()];
        }

        boolean tell(String quote) {
            int at = words.indexOf(quote);
            boolean found = at >= 0;
            while (at >= 0) {
                Arrays.fill(told, at, at + quote.length(), true);
                at = words.indexOf(quote, at + 1);
            }
            return found;
        }

        String untold() {
            StringBuilder rest = new StringBuilder();
            for (int i = 0; i < told.length; i++) {
                rest.append(told[i] ? ' ' : words.charAt(i));
            }
            return rest.toString().replaceAll("[ .,;:]+", " ").trim();
        }
    }

    private final Checks checks;
    private final boolean readable = isThere();
    private final Map<String, Section> sections = new LinkedHashMap<>();
    private String name = "";

    /** Tests of these sections, and no others. */
    Sentences(Checks checks, List<String> names) throws IOException {
        this.checks = checks;
        if (!readable) {
            System.out.println("there is no " + DOCUMENT + " to compare words with");
            return;
        }
        Map<String, String> document = document();
        for (String n : names) {
            checks.yes("there is a section " + n, document.containsKey(n));
            sections.put(n, new Section(document.getOrDefault(n, "")));
        }
    }

    /** The section of the sentences from here on. */
    void in(String section) {
        name = section;
    }

    void holds(String quote, Runnable test) {
        checks.under(name + ": ");
        if (readable) {
            Section section = sections.get(name);
            checks.yes("the document says '" + quote + "'", section != null && section.tell(quote));
        }
        checks.under(name + ", '" + quote + "': ");
        test.run();
    }

    /** To be the last call of a test's main method. */
    void end() {
        checks.under("");
        sections.forEach((n, s) -> checks.same("words of " + n + " that no test tells", s.untold(), ""));
        checks.end();
    }

    static boolean isThere() {
        return Files.isReadable(DOCUMENT);
    }

    static Set<String> names() throws IOException {
        return document().keySet();
    }

    /** The words from the Terms to the last promise by their sections, with single blanks, and without Markdown. */
    private static Map<String, String> document() throws IOException {
        Map<String, List<String>> lines = new LinkedHashMap<>();
        String section = "";
        for (String line : Files.readAllLines(DOCUMENT)) {
            if (line.startsWith("## ")) {
                section = line.matches("## (Terms|Promise \\d+:.*)") ? line.substring(3).split(":")[0] : "";
            } else if (line.matches("[A-Z]+[A-Z, ]+")) {
                section = line;
            } else if (line.startsWith("The constants:")) {
                section = "The face";
                lines.computeIfAbsent(section, s -> new ArrayList<>()).add(line);
            } else if (!section.isEmpty()) {
                String words = section.startsWith("Promise") ? line.replaceFirst("^`[^`]*`: ", "") : line;
                lines.computeIfAbsent(section, s -> new ArrayList<>()).add(words.replaceFirst("^- ", ""));
            }
        }
        Map<String, String> document = new LinkedHashMap<>();
        lines.forEach((s, l) -> document.put(s, String.join(" ", l).replace("`", "").replaceAll("\\s+", " ").trim()));
        return document;
    }
}
