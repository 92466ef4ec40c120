import java.lang.reflect.Constructor;
import java.lang.reflect.Field;
import java.lang.reflect.Method;
import java.lang.reflect.Modifier;
import java.nio.file.Files;
import java.nio.file.Path;
import java.util.List;
import java.util.Set;
import java.util.TreeSet;

/** The public face as the document has it, and what LANGUAGE.md lets a test see of the source. */
public final class FaceTest {
    private static final List<String> METHODS = List.of(
        "price 2", "ask 5", "draw 3", "change 2", "cut 1", "asked 1", "many 1", "serve 2", "paid 0",
        "hit 1", "gone 1", "look 3", "level 2", "fewest 1", "share 0", "least 1", "goes 2",
        "phases 1", "phase 2", "distance 1", "curve 1", "hard 3", "claim 1", "copy 0", "unclaim 0",
        "cost 1", "check 2");

    public static void main(String[] args) throws Exception {
        face();
        classesInside();
        source();
        constants();
        Due.end();
    }

    private static void face() throws Exception {
        Class<?> c = ShelfJudge.class;
        Due.that("the class is public and final",
            Modifier.isPublic(c.getModifiers()) && Modifier.isFinal(c.getModifiers()));
        Set<String> found = new TreeSet<>();
        Set<String> names = new TreeSet<>();
        for (Method m : c.getDeclaredMethods()) {
            if (!Modifier.isPrivate(m.getModifiers())) {
                Due.that(m + " is a public int", Modifier.isPublic(m.getModifiers())
                    && !Modifier.isStatic(m.getModifiers()) && m.getReturnType() == int.class);
                for (Class<?> type : m.getParameterTypes()) {
                    Due.that(m + " takes ints", type == int.class);
                }
                found.add(m.getName() + " " + m.getParameterCount());
                names.add(m.getName());
            }
        }
        Due.that("the methods " + found, found.equals(new TreeSet<>(METHODS)));
        for (Method m : c.getDeclaredMethods()) {
            Due.that(m + " has a name of its own",
                !Modifier.isPrivate(m.getModifiers()) || !names.contains(m.getName()));
        }
        Constructor<?>[] constructors = c.getDeclaredConstructors();
        Due.is("constructors", constructors.length, 1);
        Due.that("it is public", Modifier.isPublic(constructors[0].getModifiers()));
        int constants = 0;
        for (Field f : c.getDeclaredFields()) {
            boolean isStatic = Modifier.isStatic(f.getModifiers());
            Due.that(f + " is final if static", !isStatic || Modifier.isFinal(f.getModifiers()));
            if (!Modifier.isPrivate(f.getModifiers())) {
                Due.that(f + " is a constant", isStatic && Modifier.isPublic(f.getModifiers()));
                constants++;
            }
        }
        Due.is("constants", constants, 5);
    }

    private static void constants() {
        Due.sentence(0, "The constants: `NUMBER = -1`: A number is none, or none that may be.");
        Due.is("NUMBER", ShelfJudge.NUMBER, -1);
        Due.sentence(0, "`FULL = -2`: There are as many as may be.");
        Due.is("FULL", ShelfJudge.FULL, -2);
        Due.sentence(0, "`STATE = -3`: There is no LATEST RUN, or not what is wanted.");
        Due.is("STATE", ShelfJudge.STATE, -3);
        Due.sentence(0, "`KIND = -4`: A WAY for which that can't be.");
        Due.is("KIND", ShelfJudge.KIND, -4);
        Due.sentence(0, "`LARGE = -5`: Too many unlike THINGS.");
        Due.is("LARGE", ShelfJudge.LARGE, -5);
    }

    private static void classesInside() {
        for (Class<?> c : ShelfJudge.class.getDeclaredClasses()) {
            int fields = 0;
            for (Field f : c.getDeclaredFields()) {
                fields += Modifier.isStatic(f.getModifiers()) ? 0 : 1;
            }
            Due.that(c + " is private and static", Modifier.isPrivate(c.getModifiers())
                && Modifier.isStatic(c.getModifiers()));
            Due.that(c + " has at most twenty fields", fields <= 20);
            for (Method m : c.getDeclaredMethods()) {
                Due.that(m + " takes at most seven", m.getParameterCount() <= 7);
                Due.that(m + " has a name of its own", METHODS.stream()
                    .noneMatch(name -> name.startsWith(m.getName() + " ")));
            }
        }
    }

    private static void source() throws Exception {
        Path root = Path.of(System.getProperty("project.root", "."));
        Path file = root.resolve("src/main/java/ShelfJudge.java");
        List<String> lines = Files.readAllLines(file);
        String[] ruledOut = {"try", "catch", "throw", "finally", "synchronized", "assert", "package",
            "->", "::", "Exact", "System.out", "Random", "Math.sqrt", "double", "static {"};
        int start = 0;
        for (int n = 0; n < lines.size(); n++) {
            String line = lines.get(n);
            Due.that("line " + (n + 1) + " is ASCII", line.chars().allMatch(c -> c < 127));
            Due.that("line " + (n + 1) + " is at most 110 long", line.length() <= 110);
            String code = line.trim();
            if (code.startsWith("*") || code.startsWith("//") || code.startsWith("/*")) {
                continue;
            }
            for (String word : ruledOut) {
                Due.that("line " + (n + 1) + " is without " + word, !hasWord(code, word));
            }
            Due.that("line " + (n + 1) + " imports what it may",
                !code.startsWith("import") || code.equals("import java.util.Arrays;"));
            if (code.endsWith("{") && line.matches(" {4}(?: {4})?[a-z].*\\) \\{")) {
                start = n;
            }
            if (line.matches(" {4}(?: {4})?\\}")) {
                Due.that("the method at line " + (start + 1) + " is short", n - start < 60);
            }
        }
    }

    private static boolean hasWord(String code, String word) {
        return Character.isLetter(word.charAt(0))
            ? code.matches(".*\\b" + java.util.regex.Pattern.quote(word) + "(?![a-zA-Z]).*")
            : code.contains(word);
    }
}
