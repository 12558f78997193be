import java.io.IOException;
import java.lang.reflect.Field;
import java.lang.reflect.Method;
import java.lang.reflect.Modifier;
import java.nio.charset.StandardCharsets;
import java.nio.file.Files;
import java.nio.file.Path;
import java.util.ArrayList;
import java.util.HashSet;
import java.util.List;
import java.util.Set;
import java.util.TreeSet;
import java.util.regex.Matcher;
import java.util.regex.Pattern;

/** The rules of LANGUAGE.md, as far as a text and its members show whether they are kept. */
public final class LanguageTest {
    private static final Path SOURCE = Path.of("src", "main", "java", "TwoSlips.java");
    private static final Set<String> EXCEPTIONS = Set.of("IllegalStateException", "IllegalArgumentException",
        "IndexOutOfBoundsException", "ArithmeticException", "UnsupportedOperationException", "NoSuchElementException", "RuntimeException");
    private static final Set<String> LIBRARY = Set.of("Math.min", "Math.max", "Math.abs", "System.arraycopy", "Arrays.fill",
        "Arrays.copyOf", "Arrays.copyOfRange", "Integer.bitCount", "Integer.compare", "Long.compare");
    private static final int LINES = 60;
    private static final int PARAMETERS = 7;
    private static final int CLASSES = 12;
    private static final int FIELDS = 20;

    private LanguageTest() {
    }

    /** The text without comments and without what stands between quotes. */
    private static String code(String text) {
        return text.replaceAll("(?s)/\\*.*?\\*/", "").replaceAll("//[^\n]*", "").replaceAll("\"[^\"\n]*\"", "\"\"").replaceAll("'.'", "' '");
    }

    private static List<String> found(String code, String pattern) {
        List<String> all = new ArrayList<>();
        Matcher m = Pattern.compile(pattern).matcher(code);
        while (m.find()) {
            all.add(m.group());
        }
        return all;
    }

    private static void none(String rule, String code, String pattern) {
        Due.is(rule, "[]", () -> found(code, pattern));
    }

    private static List<Class<?>> classes() {
        List<Class<?>> all = new ArrayList<>();
        all.add(TwoSlips.class);
        all.addAll(List.of(TwoSlips.class.getDeclaredClasses()));
        return all;
    }

    private static void members() {
        Set<String> face = new HashSet<>();
        for (Method m : TwoSlips.class.getDeclaredMethods()) {
            if (Modifier.isPublic(m.getModifiers())) {
                face.add(m.getName());
            }
        }
        for (Class<?> c : classes()) {
            String name = c.getSimpleName();
            boolean inside = c != TwoSlips.class;
            if (inside) {
                Due.is("1, 2: " + name + " is static", true, () -> Modifier.isStatic(c.getModifiers()));
                Due.is("1: " + name + " is not public", false, () -> Modifier.isPublic(c.getModifiers()) || Modifier.isProtected(c.getModifiers()));
                Due.is("2: " + name + " has no classes", 0, () -> c.getDeclaredClasses().length);
            }
            int fields = 0;
            for (Field f : c.getDeclaredFields()) {
                boolean fixed = Modifier.isStatic(f.getModifiers());
                fields += fixed ? 0 : 1;
                Due.is("5: " + name + "." + f.getName(), true, () -> !fixed || Modifier.isFinal(f.getModifiers()));
            }
            int its = fields;
            Due.is("11: fields of " + name + ": " + its, true, () -> its <= FIELDS);
            for (Method m : c.getDeclaredMethods()) {
                Due.is("1: " + name + "." + m.getName() + " bears no public name", false,
                    () -> Modifier.isPrivate(m.getModifiers()) && face.contains(m.getName()));
                Due.is("11: parameters of " + m.getName(), true, () -> m.getParameterCount() <= PARAMETERS);
            }
        }
        Due.is("11: classes", true, () -> classes().size() <= CLASSES);
    }

    /** A method begins with a head of four or eight blanks and ends with a brace of as many. */
    private static void lengths(String text) {
        String[] lines = text.split("\n");
        for (int i = 0; i < lines.length; i++) {
            Matcher head = Pattern.compile("^((?:    ){1,2})\\S.*\\) (throws .*)?\\{$").matcher(lines[i]);
            if (!head.matches()) {
                continue;
            }
            int end = i;
            while (end < lines.length && !lines[end].equals(head.group(1) + "}")) {
                end++;
            }
            int many = end - i + 1;
            Due.is("11: lines of " + lines[i].trim() + ": " + many, true, () -> many <= LINES);
        }
    }

    private static void words(String text) {
        String code = code(text);
        Due.is("the library is the exceptions' alone", "[import java.util.NoSuchElementException;]", () -> found(code, "import [^;]*;"));
        none("no package", code, "(?m)^package");
        none("2: no lambda, no method reference", code, "->|::");
        none("6: no such words", code, "\\b(finally|synchronized|assert|instanceof|native|volatile|transient|throws Exception|strictfp|var|yield)\\b");
        none("6: no catch", code, "\\b(try|catch)\\b");
        none("3: no such types", code, "\\b(double|float|Object|Long|Character|Boolean|Map|Set|HashMap|Thread|Random|Optional)\\b");
        none("10: no text joined by +", code, "\"\" *\\+|\\+ *\"\"");
        none("13: nothing of the outside", code, "System\\.(?!arraycopy\\b)|Runtime\\.|Thread");
        TreeSet<String> thrown = new TreeSet<>();
        for (String one : found(code, "throw new \\w+\\((\"\")?\\);|throw [^;]*;")) {
            thrown.add(one.replaceAll("throw new (\\w+)\\((\"\")?\\);", "$1"));
        }
        Due.is("6: what is thrown", true, () -> EXCEPTIONS.containsAll(thrown));
        TreeSet<String> used = new TreeSet<>(found(code, "\\b(Math|System|Arrays|Integer)\\.\\w+"));
        Due.is("4: what is used", true, () -> LIBRARY.containsAll(used));
        none("4: texts of 1 to 127", text, "[^\\x0a\\x20-\\x7e]");
        none("1: no member is protected, no class public but one", code, "\\bprotected\\b|    public (static )?(final )?class");
    }

    public static void main(String[] args) throws IOException {
        String text = Files.readString(SOURCE, StandardCharsets.UTF_8);
        words(text);
        members();
        lengths(text);
        Due.end();
    }
}
