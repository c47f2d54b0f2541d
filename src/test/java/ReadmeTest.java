import java.io.IOException;
import java.nio.file.Files;
import java.nio.file.Path;
import java.util.Set;
import java.util.TreeSet;
import java.util.regex.Matcher;
import java.util.regex.Pattern;
import java.util.stream.Stream;

/** README.md: its examples answer what stands behind them, and its table names every test. */
public final class ReadmeTest {
    private static final Due due = new Due("ReadmeTest");
    private static final Pattern MADE = Pattern.compile("CarpetEleven x = new CarpetEleven\\(\\);");
    private static final Pattern FED = Pattern.compile(
            "for \\(char letter : \"([^\"]*)\"\\.toCharArray\\(\\)\\) x\\.feed\\(letter\\);");
    private static final Pattern ASKED = Pattern.compile("x\\.(\\w+)\\(([-0-9, ]*)\\);\\s+// (-?\\d+)(:.*)?");

    public static void main(String[] args) throws IOException {
        Path source = Path.of(args.length > 0 ? args[0] : "src/main/java/CarpetEleven.java").toAbsolutePath();
        Path root = source.getParent().getParent().getParent().getParent();
        String readme = Files.readString(root.resolve("README.md"));
        examples(readme);
        table(readme, root.resolve("src/test/java"));
        due.finish();
    }

    private static void examples(String readme) {
        int found = 0;
        Matcher block = Pattern.compile("(?s)```java\n(.*?)```").matcher(readme);
        while (block.find()) {
            found++;
            example(block.group(1));
        }
        due.holds("there are examples", found > 0);
    }

    private static void example(String lines) {
        CarpetEleven x = null;
        for (String line : lines.split("\n")) {
            Matcher fed = FED.matcher(line);
            Matcher asked = ASKED.matcher(line);
            if (MADE.matcher(line).matches()) {
                x = new CarpetEleven();
            } else if (x != null && fed.matches()) {
                for (char letter : fed.group(1).toCharArray()) {
                    x.feed(letter);
                }
            } else if (x != null && asked.matches()) {
                due.is(line, Twins.call(x, asked.group(1), numbers(asked.group(2))),
                        Long.parseLong(asked.group(3)));
            } else {
                due.holds("a line that isn't checked: " + line, false);
            }
        }
    }

    private static int[] numbers(String list) {
        if (list.isBlank()) {
            return new int[0];
        }
        return Stream.of(list.split(",")).mapToInt(word -> Integer.parseInt(word.trim())).toArray();
    }

    private static void table(String readme, Path tests) throws IOException {
        Set<String> named = new TreeSet<>();
        Matcher row = Pattern.compile("(?m)^\\| (\\w+Test) \\|").matcher(readme);
        while (row.find()) {
            named.add(row.group(1));
        }
        Set<String> there = new TreeSet<>();
        try (Stream<Path> files = Files.list(tests)) {
            files.map(file -> file.getFileName().toString())
                    .filter(name -> name.endsWith("Test.java"))
                    .forEach(name -> there.add(name.substring(0, name.length() - ".java".length())));
        }
        due.holds("the table names " + named + ", there are " + there, named.equals(there));
    }
}
