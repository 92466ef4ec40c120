import java.lang.reflect.Constructor;
import java.lang.reflect.Field;
import java.lang.reflect.Method;
import java.lang.reflect.Modifier;
import java.nio.file.Files;
import java.nio.file.Path;
import java.util.ArrayList;
import java.util.List;
import java.util.Set;
import java.util.TreeSet;
import java.util.regex.Matcher;
import java.util.regex.Pattern;

/** The public face as the document has it, and what LANGUAGE.md lets a test see of the source. */
public final class FaceTest {
    private static final Path SOURCE = Document.root().resolve("src/main/java/ShelfJudge.java");
    private static final List<String> FACE = faceOfDocument();
    private static final Set<String> METHODS = methodsOf(FACE);

    public static void main(String[] args) throws Exception {
        face();
        order();
        dividingLines();
        staticFields();
        classesInside();
        source();
        constants();
        Due.end();
    }

    /** What the document's face declares, one after another, each without its end. */
    private static List<String> faceOfDocument() {
        Matcher block = Pattern.compile("```java public final class ShelfJudge \\{ (.*?); \\} ```")
            .matcher(Document.part(0));
        return block.find() ? List.of(block.group(1).split("; ")) : List.of();
    }

    /** The methods among these, as a name and how many arguments it takes. */
    private static Set<String> methodsOf(List<String> declarations) {
        Set<String> methods = new TreeSet<>();
        for (String one : declarations) {
            Matcher method = Pattern.compile("public int (\\w+)\\((.*)\\)").matcher(one);
            if (method.matches()) {
                String list = method.group(2);
                methods.add(method.group(1) + " " + (list.isEmpty() ? 0 : list.split(", ").length));
            }
        }
        return methods;
    }

    /** The class has the declarations of the document word by word, and in the same order. */
    private static void order() throws Exception {
        String text = sourceOnOneLine();
        int at = 0;
        for (String one : FACE) {
            String due = one.endsWith(")") ? one + " {" : one + ";";
            int found = text.indexOf(due, at);
            Due.that("in its turn stands " + due, found >= 0);
            at = Math.max(at, found);
        }
        Due.is("declarations", FACE.size(), 33);
        Due.is("what is public beside the class", text.split("\\bpublic ").length - 2, 33);
    }

    private static void dividingLines() throws Exception {
        String text = sourceOnOneLine();
        Matcher lines = Pattern.compile("Ahead of the calls (.*?) the interface says: (----[ a-z,]+)\\.")
            .matcher(Document.part(0));
        int at = 0;
        int count = 0;
        while (lines.find()) {
            int line = text.indexOf("// " + lines.group(2) + " public int ", at);
            Due.that("there is " + lines.group(2), line >= at);
            at = Math.max(at, line);
            for (String call : lines.group(1).replace("`", "").split(", ")) {
                int found = text.indexOf("public int " + call + "(");
                Due.that(call + " stands behind " + lines.group(2), found > at);
                at = Math.max(at, found);
                count++;
            }
        }
        Due.is("calls behind dividing lines", count, 27);
    }

    private static String sourceOnOneLine() throws Exception {
        return Files.readString(SOURCE).replaceAll("\\s+", " ");
    }

    private static void face() throws Exception {
        Class<?> c = ShelfJudge.class;
        Due.that("the class is public and final",
            Modifier.isPublic(c.getModifiers()) && Modifier.isFinal(c.getModifiers()));
        Set<String> found = new TreeSet<>();
        Set<String> names = new TreeSet<>();
        for (Method m : c.getDeclaredMethods()) {
            if (!Modifier.isPrivate(m.getModifiers())) {
                Due.that(m + " is a public int", Modifier.isPublic(m.getModifiers())
                    && !Modifier.isStatic(m.getModifiers()) && m.getReturnType() == int.class);
                for (Class<?> type : m.getParameterTypes()) {
                    Due.that(m + " takes ints", type == int.class);
                }
                found.add(m.getName() + " " + m.getParameterCount());
                names.add(m.getName());
            }
        }
        Due.that("the methods " + found, found.equals(METHODS));
        Due.is("how many", found.size(), 27);
        for (Method m : c.getDeclaredMethods()) {
            Due.that(m + " has a name of its own",
                !Modifier.isPrivate(m.getModifiers()) || !names.contains(m.getName()));
        }
        Constructor<?>[] constructors = c.getDeclaredConstructors();
        Due.is("constructors", constructors.length, 1);
        Due.that("it is public", Modifier.isPublic(constructors[0].getModifiers()));
        int constants = 0;
        for (Field f : c.getDeclaredFields()) {
            boolean isStatic = Modifier.isStatic(f.getModifiers());
            if (!Modifier.isPrivate(f.getModifiers())) {
                Due.that(f + " is a constant", isStatic && Modifier.isPublic(f.getModifiers()));
                constants++;
            }
        }
        Due.is("constants", constants, 5);
    }

    /** A number can't be changed if it is final; an array could, and objects would share it. */
    private static void staticFields() {
        List<Class<?>> classes = new ArrayList<>(List.of(ShelfJudge.class.getDeclaredClasses()));
        classes.add(ShelfJudge.class);
        for (Class<?> c : classes) {
            for (Field f : c.getDeclaredFields()) {
                Due.that(f + " is a constant if static", !Modifier.isStatic(f.getModifiers())
                    || Modifier.isFinal(f.getModifiers()) && f.getType().isPrimitive());
            }
        }
    }

    private static void constants() {
        Due.sentence(0, "The constants: `NUMBER = -1`: A number is none, or none that may be.");
        Due.is("NUMBER", ShelfJudge.NUMBER, -1);
        Due.sentence(0, "`FULL = -2`: There are as many as may be.");
        Due.is("FULL", ShelfJudge.FULL, -2);
        Due.sentence(0, "`STATE = -3`: There is no LATEST RUN, or not what is wanted.");
        Due.is("STATE", ShelfJudge.STATE, -3);
        Due.sentence(0, "`KIND = -4`: A WAY for which that can't be.");
        Due.is("KIND", ShelfJudge.KIND, -4);
        Due.sentence(0, "`LARGE = -5`: Too many unlike THINGS.");
        Due.is("LARGE", ShelfJudge.LARGE, -5);
    }

    private static void classesInside() {
        for (Class<?> c : ShelfJudge.class.getDeclaredClasses()) {
            int fields = 0;
            for (Field f : c.getDeclaredFields()) {
                fields += Modifier.isStatic(f.getModifiers()) ? 0 : 1;
            }
            Due.that(c + " is private and static", Modifier.isPrivate(c.getModifiers())
                && Modifier.isStatic(c.getModifiers()));
            Due.that(c + " has at most twenty fields", fields <= 20);
            for (Method m : c.getDeclaredMethods()) {
                Due.that(m + " takes at most seven", m.getParameterCount() <= 7);
                Due.that(m + " has a name of its own", METHODS.stream()
                    .noneMatch(name -> name.startsWith(m.getName() + " ")));
            }
        }
    }

    private static void source() throws Exception {
        List<String> lines = Files.readAllLines(SOURCE);
        String[] ruledOut = {"try", "catch", "throw", "finally", "synchronized", "assert", "package",
            "->", "::", "Exact", "System.out", "Random", "Math.sqrt", "double", "static {"};
        int start = 0;
        for (int n = 0; n < lines.size(); n++) {
            String line = lines.get(n);
            Due.that("line " + (n + 1) + " is ASCII", line.chars().allMatch(c -> c < 127));
            Due.that("line " + (n + 1) + " is at most 110 long", line.length() <= 110);
            String code = line.trim();
            if (code.startsWith("*") || code.startsWith("//") || code.startsWith("/*")) {
                continue;
            }
            for (String word : ruledOut) {
                Due.that("line " + (n + 1) + " is without " + word, !hasWord(code, word));
            }
            Due.that("line " + (n + 1) + " imports what it may",
                !code.startsWith("import") || code.equals("import java.util.Arrays;"));
            if (code.endsWith("{") && line.matches(" {4}(?: {4})?[a-z].*\\) \\{")) {
                start = n;
            }
            if (line.matches(" {4}(?: {4})?\\}")) {
                Due.that("the method at line " + (start + 1) + " is short", n - start < 60);
            }
        }
    }

    private static boolean hasWord(String code, String word) {
        return Character.isLetter(word.charAt(0))
            ? code.matches(".*\\b" + Pattern.quote(word) + "(?![a-zA-Z]).*")
            : code.contains(word);
    }
}
