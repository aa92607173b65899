import java.io.IOException;
import java.nio.file.Files;
import java.nio.file.Path;
import java.util.Set;
import java.util.TreeSet;
import java.util.regex.Matcher;
import java.util.regex.Pattern;
import java.util.stream.Collectors;
import java.util.stream.Stream;

/** README.md says what is so: its example answers as it tells, and its table has every test. */
public final class ReadmeTest {
    private static final Checks C = new Checks("ReadmeTest");
    /** The example; a line here that is not in README.md as it stands means that one of the two was changed alone. */
    private static final String[] EXAMPLE = {
        "MoveNotes x = new MoveNotes();",
        "x.feed(0x6c656170, 0, 0, 0, 0);",
        "x.end(4);",
        "int leap = x.kind(3);",
        "x.put(0, leap, 0);",
        "int book = x.book(0);",
        "x.note(book, leap, MoveNotes.NONE, 1, 2);",
        "x.least();                        // 0:",
        "x.read(0);                        // 13:"
    };

    public static void main(String[] args) throws IOException {
        String readme = Files.readString(Path.of("README.md"));
        for (String line : EXAMPLE) {
            C.isTrue("README.md has " + line, readme.contains("\n" + line));
        }
        example();
        table(readme);
        C.end();
    }

    private static void example() {
        MoveNotes x = new MoveNotes();
        x.feed(0x6c656170, 0, 0, 0, 0);
        x.end(4);
        int leap = x.kind(3);
        x.put(0, leap, 0);
        int book = x.book(0);
        x.note(book, leap, MoveNotes.NONE, 1, 2);
        C.same("least()", x.least(), 0);
        C.same("read(0)", x.read(0), 13);
    }

    private static void table(String readme) throws IOException {
        Set<String> named = new TreeSet<>();
        Matcher m = Pattern.compile("(?m)^\\| (\\w+Test) \\|").matcher(readme);
        while (m.find()) {
            named.add(m.group(1));
        }
        try (Stream<Path> files = Files.list(Path.of("src/test/java"))) {
            Set<String> there = files.map(f -> f.getFileName().toString()).filter(f -> f.endsWith("Test.java"))
                    .map(f -> f.replace(".java", "")).collect(Collectors.toCollection(TreeSet::new));
            C.text("the tests that README.md names", named.toString(), there.toString());
        }
    }
}
