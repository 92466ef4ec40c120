import java.io.IOException;
import java.nio.file.Files;
import java.nio.file.Path;
import java.util.List;
import java.util.regex.Matcher;
import java.util.regex.Pattern;
import java.util.stream.Collectors;
import java.util.stream.Stream;

/**
 * All that the document promises is quoted by a test (see Due.sentence): how long an object is used,
 * the terms, the constants and the promises 1 to 28. Left out are headings, the summary at the top,
 * what FaceTest reads from the document (the face, dividing lines), and what is not promised.
 */
public final class SentencesTest {
    private static final Pattern QUOTE =
        Pattern.compile("Due\\.sentence\\(\\s*(\\d+),\\s*((?:\"[^\"]*\"[\\s+]*)+)\\)");
    private static final Pattern WORDS = Pattern.compile("\"([^\"]*)\"");
    private static final Pattern NOT_PROMISED = Pattern.compile(
        "^# ShelfJudge ## What it is A judge of shelves: [^.]*\\.|## The public face ```java .*? ```|## Terms"
        + "|## Promise \\d+: (?:A new object|\\w+)|`(?:int \\w+|ShelfJudge)\\([^)]*\\)`:"
        + "|Ahead of the calls .*? the interface says: ----[ a-z,]+\\."
        + "|2\\. WAYS, and what GOES by them:|```text");

    public static void main(String[] args) throws IOException {
        String sources = sources();
        for (int promise = 0; promise <= Document.PROMISES; promise++) {
            StringBuilder left = new StringBuilder(Document.part(promise));
            blank(left, NOT_PROMISED.matcher(left.toString()));
            Matcher quote = QUOTE.matcher(sources);
            while (quote.find()) {
                if (Integer.parseInt(quote.group(1)) == promise) {
                    blank(left, Pattern.compile(Pattern.quote(joined(quote.group(2))))
                        .matcher(Document.part(promise)));
                }
            }
            List<String> unquoted = Stream.of(left.toString().split(" {2,}"))
                .filter(words -> words.matches(".*[a-zA-Z].*")).collect(Collectors.toList());
            Due.that("all of promise " + promise + " is quoted by a test, but for " + unquoted,
                unquoted.isEmpty());
        }
        Due.end();
    }

    private static String sources() throws IOException {
        StringBuilder all = new StringBuilder();
        try (Stream<Path> files = Files.list(Document.root().resolve("src/test/java"))) {
            for (Path file : files.sorted().collect(Collectors.toList())) {
                if (file.toString().endsWith("Test.java")) {
                    all.append(Files.readString(file));
                }
            }
        }
        return all.toString();
    }

    private static String joined(String literals) {
        StringBuilder all = new StringBuilder();
        Matcher words = WORDS.matcher(literals);
        while (words.find()) {
            all.append(words.group(1));
        }
        return all.toString();
    }

    private static void blank(StringBuilder text, Matcher found) {
        while (found.find()) {
            for (int i = found.start(); i < found.end(); i++) {
                text.setCharAt(i, ' ');
            }
        }
    }
}
