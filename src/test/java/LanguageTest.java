import java.io.IOException;
import java.lang.reflect.Constructor;
import java.lang.reflect.Field;
import java.lang.reflect.Method;
import java.lang.reflect.Modifier;
import java.nio.file.Files;
import java.nio.file.Path;
import java.util.Arrays;
import java.util.Set;
import java.util.TreeSet;
import java.util.regex.Matcher;
import java.util.regex.Pattern;

/** What of LANGUAGE.md and of the document's face can be seen without reading the code. */
public final class LanguageTest {
    private static final Path SOURCE = Path.of("src/main/java/PaperBread.java");
    private static final Pattern METHOD = Pattern.compile(
            "( {4}| {8})(?!if |for |while |switch )\\w[\\w\\[\\] ]*\\(.*\\) \\{");
    private static final Path DOCUMENT = Path.of("../shared/DOC.md");

    private static String withoutComments(String text) {
        return text.replaceAll("(?s)/\\*.*?\\*/", "").replaceAll("//[^\n]*", "");
    }

    /** Rules 2, 4, 6, 13: words and signs that may not stand in the program. */
    private static void words(String code) {
        String[] never = {"throw", "throws", "try", "catch", "finally", "synchronized", "assert",
            "package", "protected", "volatile", "native", "hashCode", "toString", "equals",
            "Object", "Thread", "Random", "System.out", "System.currentTimeMillis", "System.nanoTime"};
        for (String word : never) {
            Check.due(word + " stands in the program",
                    Pattern.compile("\\b" + Pattern.quote(word) + "\\b").matcher(code).find(), false);
        }
        Check.due("->", code.contains("->"), false);
        Check.due("::", code.contains("::"), false);
        Check.due("Exact(", code.contains("Exact("), false);
        Matcher imports = Pattern.compile("import ([^;]*);").matcher(code);
        while (imports.find()) {
            Check.due("import " + imports.group(1), imports.group(1).equals("java.util.Arrays"), true);
        }
        Check.due("signs beyond 127", code.chars().allMatch(c -> c < 128), true);
    }

    /** Rule 1, and the document's face to the letter. */
    private static void face() throws IOException {
        String document = Files.readString(DOCUMENT);
        String face = document.substring(document.indexOf("public final class"));
        face = face.substring(0, face.indexOf("```"));
        Set<String> due = new TreeSet<>();
        Matcher calls = Pattern.compile("public (\\w+) (\\w+)\\(([^)]*)\\);").matcher(face);
        while (calls.find()) {
            due.add(calls.group(1) + " " + calls.group(2) + "("
                    + calls.group(3).replaceAll(" \\w+(,|$)", "$1") + ")");
        }
        Set<String> there = new TreeSet<>();
        for (Method m : PaperBread.class.getDeclaredMethods()) {
            if (Modifier.isPublic(m.getModifiers())) {
                String types = String.join(", ",
                        Arrays.stream(m.getParameterTypes()).map(Class::getName).toList());
                there.add(m.getReturnType().getName() + " " + m.getName() + "(" + types + ")");
            } else {
                Check.due(m + " is private", Modifier.isPrivate(m.getModifiers()), true);
            }
        }
        Check.due("the face has " + there + ", due is " + due, there.equals(due), true);
        Check.due("calls", due.size(), 47);
        for (Field f : PaperBread.class.getDeclaredFields()) {
            boolean constant = f.getName().equals("NONE");
            Check.due(f + " is private", Modifier.isPrivate(f.getModifiers()), !constant);
        }
        for (Constructor<?> c : PaperBread.class.getDeclaredConstructors()) {
            Check.due(c + " is public", Modifier.isPublic(c.getModifiers()), true);
        }
        Check.due("public final", PaperBread.class.getModifiers(), Modifier.PUBLIC | Modifier.FINAL);
    }

    /** Rules 1, 2, 5, 11: the classes inside, their fields and methods. */
    private static void inside() {
        Set<String> names = new TreeSet<>();
        for (Method m : PaperBread.class.getDeclaredMethods()) {
            if (Modifier.isPublic(m.getModifiers())) {
                names.add(m.getName());
            }
        }
        Class<?>[] classes = PaperBread.class.getDeclaredClasses();
        Check.due("classes: " + classes.length, classes.length < 12, true);
        for (Class<?> c : classes) {
            Check.due(c + " is static", Modifier.isStatic(c.getModifiers()), true);
            int fields = 0;
            for (Field f : c.getDeclaredFields()) {
                boolean still = Modifier.isStatic(f.getModifiers());
                fields += still ? 0 : 1;
                Check.due(f + " is final", !still || Modifier.isFinal(f.getModifiers()), true);
            }
            Check.due(c + " has " + fields + " fields", fields <= 20, true);
            for (Method m : c.getDeclaredMethods()) {
                Check.due(m + " bears a public one's name", names.contains(m.getName()), false);
                Check.due(m + ": parameters", m.getParameterCount() <= 7, true);
            }
        }
    }

    /** Rule 11: methods of at most some sixty lines; a method begins and ends at its own depth. */
    private static void lengths(String text) {
        String[] lines = text.split("\n");
        int methods = 0;
        for (int i = 0; i < lines.length; i++) {
            Matcher head = METHOD.matcher(lines[i]);
            if (!head.matches()) {
                continue;
            }
            methods++;
            int end = i;
            while (end < lines.length && !lines[end].equals(head.group(1) + "}")) {
                end++;
            }
            Check.due(lines[i].strip() + " has " + (end - i + 1) + " lines", end - i + 1 <= 60, true);
        }
        Check.due("methods were seen", methods > 100, true);
    }

    public static void main(String[] args) throws IOException {
        String text = Files.readString(SOURCE);
        words(withoutComments(text));
        face();
        inside();
        lengths(text);
        Check.end();
    }
}
