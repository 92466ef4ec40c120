import java.io.IOException;
import java.lang.reflect.Field;
import java.lang.reflect.Method;
import java.lang.reflect.Modifier;
import java.nio.file.Files;
import java.nio.file.Path;
import java.util.List;
import java.util.regex.Matcher;
import java.util.regex.Pattern;
import java.util.stream.Collectors;
import java.util.stream.Stream;

/** What README.md says holds: the answers of its example, and that it leaves out no call and no test. */
public final class ReadmeTest {
    private static final Pattern EXAMPLE = Pattern.compile("(?s)```java\n(.*?)```");
    private static final Pattern STEP =
        Pattern.compile("judge\\.(\\w+)\\(([-\\d, ]*)\\); +// (-?\\d+): .+");

    public static void main(String[] args) throws IOException {
        String text = Files.readString(Document.root().resolve("README.md"));
        example(text);
        calls(text);
        constants(text);
        tests(text);
        Due.end();
    }

    private static void example(String text) {
        Matcher block = EXAMPLE.matcher(text);
        Due.that("there is an example", block.find());
        List<String> lines = block.group(1).lines().filter(line -> !line.isBlank())
            .collect(Collectors.toList());
        Due.that("it begins with a new object",
            lines.get(0).equals("ShelfJudge judge = new ShelfJudge();"));
        ShelfJudge judge = new ShelfJudge();
        for (String line : lines.subList(1, lines.size())) {
            Matcher step = STEP.matcher(line);
            boolean matches = step.matches();
            Due.that("a call with its answer: " + line, matches);
            if (matches) {
                Due.is(line, Calls.answer(judge, step.group(1), numbers(step.group(2))),
                    Integer.parseInt(step.group(3)));
            }
        }
    }

    private static Object[] numbers(String list) {
        return Stream.of(list.split(",")).map(String::trim).filter(word -> !word.isEmpty())
            .map(Integer::valueOf).toArray();
    }

    private static void calls(String text) {
        for (Method m : ShelfJudge.class.getDeclaredMethods()) {
            if (Modifier.isPublic(m.getModifiers())) {
                Matcher row = Pattern.compile("\\| `" + m.getName() + "\\(([a-z, ]*)\\)` \\| ").matcher(text);
                boolean found = row.find();
                Due.that(m.getName() + " stands in the table of calls", found);
                if (found) {
                    int count = row.group(1).isEmpty() ? 0 : row.group(1).split(", ").length;
                    Due.is(m.getName() + " has as many arguments there", count, m.getParameterCount());
                }
            }
        }
    }

    private static void constants(String text) {
        for (Field f : ShelfJudge.class.getDeclaredFields()) {
            if (Modifier.isPublic(f.getModifiers())) {
                try {
                    String words = "`" + f.getName() + "` (" + f.getInt(null) + ")";
                    Due.that(words + " is told", text.contains(words));
                } catch (IllegalAccessException e) {
                    throw new IllegalStateException(e);
                }
            }
        }
    }

    private static void tests(String text) throws IOException {
        try (Stream<Path> files = Files.list(Document.root().resolve("src/test/java"))) {
            files.map(file -> file.getFileName().toString().replace(".java", ""))
                .filter(name -> name.endsWith("Test")).sorted()
                .forEach(name -> Due.that(name + " stands in the table of tests",
                    text.matches("(?s).*\n\\| (?:`\\w+`, )*`" + name + "`[ ,].*")));
        }
    }
}
