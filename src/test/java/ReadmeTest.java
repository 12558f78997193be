import java.io.IOException;
import java.lang.reflect.InvocationTargetException;
import java.lang.reflect.Method;
import java.lang.reflect.Modifier;
import java.nio.charset.StandardCharsets;
import java.nio.file.Files;
import java.nio.file.Path;
import java.util.List;
import java.util.TreeSet;
import java.util.regex.Matcher;
import java.util.regex.Pattern;

/** Runs the code of README.md, line by line, and holds the answers that stand behind the calls. */
public final class ReadmeTest {
    private static final Path README = Path.of("README.md");
    private static final Path SELF = Path.of("src", "test", "java", "ReadmeTest.java");
    private static final Pattern BLOCK = Pattern.compile("(?s)```java\n(.*?)```");
    private static final Pattern LINE = Pattern.compile("(?:x\\.(\\w+)\\(([^)]*)\\)|tell\\(x, \"([^\"]*)\"\\));(?: *// (.*))?");

    private static TwoSlips x = new TwoSlips();
    private static final TreeSet<String> CALLED = new TreeSet<>();

    private ReadmeTest() {
    }

    // README.md shows this method as it stands here.
    static int tell(TwoSlips x, String text) {
        for (int i = 0; i < text.length(); i += 20) {
            int[] five = new int[5];
            for (int j = 0; j < 20; j++) {
                int c = i + j < text.length() ? text.charAt(i + j) & 255 : 32;
                five[j / 4] = five[j / 4] << 8 | c;
            }
            x.feed(five[0], five[1], five[2], five[3], five[4]);
        }
        return x.talk(text.length());
    }

    private static String plain(String text) {
        return text.replaceAll("\\s+", " ").trim();
    }

    private static Method method(String name) {
        for (Method m : TwoSlips.class.getMethods()) {
            if (m.getName().equals(name)) {
                return m;
            }
        }
        throw new IllegalStateException("no call " + name);
    }

    private static Object called(String name, String arguments) {
        Method m = method(name);
        String[] told = arguments.isEmpty() ? new String[0] : arguments.split(", *");
        Object[] values = new Object[told.length];
        for (int i = 0; i < told.length; i++) {
            long value = Long.parseLong(told[i]);
            values[i] = m.getParameterTypes()[i] == long.class ? (Object) value : (Object) (int) value;
        }
        try {
            return m.invoke(x, values);
        } catch (InvocationTargetException e) {
            return "throws " + e.getCause().getClass().getSimpleName();
        } catch (IllegalAccessException e) {
            return e;
        }
    }

    private static void runLine(String line) {
        if (line.equals("TwoSlips x = new TwoSlips();")) {
            x = new TwoSlips();
            return;
        }
        Matcher m = LINE.matcher(line);
        if (!m.matches()) {
            Due.is("a line of README.md: " + line, "a call", () -> "none");
            return;
        }
        Object got = m.group(1) == null ? tell(x, m.group(3)) : called(m.group(1), m.group(2));
        if (m.group(1) != null) {
            CALLED.add(m.group(1));
        }
        // What follows a colon is said to the reader; a call without an answer has none.
        String due = m.group(4) == null ? "null" : m.group(4).replaceAll(":.*", "").trim();
        Due.is("README.md: " + line, due, () -> got);
    }

    public static void main(String[] args) throws IOException {
        String readme = Files.readString(README, StandardCharsets.UTF_8);
        String self = plain(Files.readString(SELF, StandardCharsets.UTF_8));
        Matcher blocks = BLOCK.matcher(readme);
        while (blocks.find()) {
            String block = blocks.group(1);
            if (block.startsWith("static ")) {
                Due.is("README.md shows tell", true, () -> self.contains(plain(block)));
                continue;
            }
            for (String line : block.split("\n")) {
                runLine(line.trim());
            }
        }
        // Only feed and talk stand in tell; every other call of the face is shown.
        CALLED.add("feed");
        CALLED.add("talk");
        for (Method m : TwoSlips.class.getDeclaredMethods()) {
            if (Modifier.isPublic(m.getModifiers())) {
                Due.is("README.md shows " + m.getName(), true, () -> CALLED.contains(m.getName()));
            }
        }
        Due.is("README.md says how to run the tests", true, () -> readme.contains("    .ci/run\n"));
        for (String name : new TreeSet<>(List.of(Path.of("src", "test", "java").toFile().list()))) {
            Due.is("README.md tells of " + name, true, () -> readme.contains("`" + name.replace(".java", "") + "`"));
        }
        Due.end();
    }
}
