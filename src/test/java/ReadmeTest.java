import java.io.IOException;
import java.lang.reflect.InvocationTargetException;
import java.lang.reflect.Method;
import java.lang.reflect.Modifier;
import java.nio.file.Files;
import java.nio.file.Path;
import java.util.List;
import java.util.Set;
import java.util.TreeSet;
import java.util.regex.Matcher;
import java.util.regex.Pattern;
import java.util.stream.Collectors;
import java.util.stream.Stream;

/** That README.md tells what is so. */
public final class ReadmeTest {
    private static final Checks CHECKS = new Checks();
    private static final Path PAGE = Path.of("README.md");
    private static final Path TESTS = Path.of("src/test/java");
    private static final Pattern CALL = Pattern.compile(" {4}meadow\\.(\\w+)\\((.*)\\); +// (\\w+|-1): .+");
    private static final Pattern COMMAND = Pattern.compile("\\| ((`\\w+`(, )?)+) \\| .+ \\|");

    public static void main(String[] args) throws Exception {
        example();
        sameText();
        commands();
        methods();
        tests();
        CHECKS.end();
    }

    /** Each call of the example answers what stands behind it. */
    private static void example() throws Exception {
        FencedRows meadow = new FencedRows();
        int calls = 0;
        for (String line : lines()) {
            Matcher call = CALL.matcher(line);
            if (call.matches()) {
                CHECKS.same(line.trim(), answer(meadow, call.group(1), call.group(2)), call.group(3));
                calls++;
            }
        }
        long written = lines().stream().filter(l -> l.startsWith("    meadow.")).count();
        CHECKS.is("calls of the example that could be read", calls, written);
        CHECKS.yes("there is an example", calls > 0);
    }

    private static String answer(FencedRows meadow, String name, String written) throws Exception {
        String[] parts = written.isEmpty() ? new String[0] : written.split(", ");
        Method method = Stream.of(FencedRows.class.getMethods())
                .filter(m -> m.getName().equals(name) && m.getParameterCount() == parts.length).findFirst().orElse(null);
        if (method == null) {
            return "no such method";
        }
        Object[] values = new Object[parts.length];
        for (int i = 0; i < parts.length; i++) {
            values[i] = value(method.getParameterTypes()[i], parts[i]);
        }
        try {
            return String.valueOf(method.invoke(meadow, values));
        } catch (InvocationTargetException e) {
            return e.getCause().getClass().getSimpleName();
        }
    }

    private static Object value(Class<?> type, String written) {
        if (type == boolean.class) {
            return Boolean.valueOf(written);
        }
        return type == long.class ? (Object) Long.valueOf(written.replace("L", "")) : Integer.valueOf(written);
    }

    private static void sameText() throws IOException {
        String text = "Ms03a05nk0";
        CHECKS.yes("the page has the text " + text, page().contains("`" + text + "`"));
        FencedRows x = new FencedRows();
        x.spread(3);
        x.away(5, true);
        x.tell();
        x.seek(0);
        CHECKS.same("what " + text + " does", Checks.seen(Meadows.loaded(text)), Checks.seen(x));
    }

    /** The table of commands has each letter, and the document allows what stands there. */
    private static void commands() throws IOException {
        Set<Character> letters = new TreeSet<>();
        for (String line : lines()) {
            Matcher row = COMMAND.matcher(line);
            if (row.matches() && row.group(1).matches("`.(\\d+)?`.*")) {
                for (String command : row.group(1).replace("`", "").split(", ")) {
                    CHECKS.is("errorPosition of M" + command, Meadows.typed("M" + command).errorPosition(), -1);
                    letters.add(command.charAt(0));
                }
            }
        }
        CHECKS.same("the commands", letters, new TreeSet<>(List.of('a', 'c', 'w', 'f', 'l', 's', 'n', 'k')));
        FencedRows x = Meadows.loaded("Mf12f24f36l030w0512");
        CHECKS.is("the lie by l030", x.blockOf(3, 4), -2);
        CHECKS.is("the weight by w0512", x.rowOf(5, 0), 12);
    }

    private static void methods() throws IOException {
        for (Method m : FencedRows.class.getDeclaredMethods()) {
            if (Modifier.isPublic(m.getModifiers())) {
                CHECKS.yes("the page tells of " + m.getName(), page().contains("`" + m.getName() + "`"));
            }
        }
    }

    private static void tests() throws IOException {
        Set<String> told = lines().stream().filter(l -> l.matches("\\| \\w+Test \\| .+ \\|"))
                .map(l -> l.split(" ")[1]).collect(Collectors.toCollection(TreeSet::new));
        try (Stream<Path> files = Files.list(TESTS)) {
            Set<String> there = files.map(f -> f.getFileName().toString()).filter(f -> f.endsWith("Test.java"))
                    .map(f -> f.replace(".java", "")).collect(Collectors.toCollection(TreeSet::new));
            CHECKS.same("the tests that the page tells of", told, there);
        }
    }

    private static List<String> lines() throws IOException {
        return Files.readAllLines(PAGE);
    }

    private static String page() throws IOException {
        return Files.readString(PAGE);
    }
}
