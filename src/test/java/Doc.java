import java.io.IOException;
import java.nio.charset.StandardCharsets;
import java.nio.file.Files;
import java.nio.file.Path;
import java.util.ArrayList;
import java.util.LinkedHashMap;
import java.util.List;
import java.util.Map;

/** The document, sentence by sentence: each one that a test holds is quoted, and in the end none may be without a test. */
final class Doc {
    private static final Path PLACE = Path.of("..", "shared", "DOC.md");
    /** Where the sections of the terms begin and end; those of the promises have headings. */
    private static final String[][] TERMS = {{"use", "An object is used", "## The public face"},
        {"text", "A TALK is a TEXT", "==== 2."}, {"worlds", "WORLDS are pairs", "==== 3."},
        {"sought", "MUTE: two SPEAKERS", "The constants:"}, {"constants", "`NONE = -1`", "Ahead of the calls"}};
    private static final int PROMISES = 38;

    private static final Map<String, String> SECTIONS = new LinkedHashMap<>();
    private static final Map<String, boolean[]> QUOTED = new LinkedHashMap<>();
    private static final List<String> WRONG = new ArrayList<>();
    private static String faceBlock = "";
    private static int quotes;
    private static int askedBefore = -1;
    private static String latest = "";

    private Doc() {
    }

    /** Reads the document; without it answers are held all the same, but no quotes. */
    static void open() {
        String doc;
        try {
            doc = Files.readString(PLACE, StandardCharsets.UTF_8);
        } catch (IOException e) {
            System.out.println("no document at " + PLACE);
            return;
        }
        faceBlock = between(doc, "```java", "```");
        String plain = doc.replace("```text", " ").replace("```", " ").replaceAll("\\s+", " ");
        for (String[] term : TERMS) {
            put(term[0], term[1] + between(plain, term[1], term[2]));
        }
        for (int p = 1; p <= PROMISES; p++) {
            String end = p < PROMISES ? "## Promise " + (p + 1) + ":" : "## Not promised";
            String section = between(plain, "## Promise " + p + ":", end);
            // Behind the heading the signature stands between two signs of its own.
            put("" + p, section.substring(section.indexOf("`:") + 2));
        }
    }

    private static void put(String key, String section) {
        SECTIONS.put(key, section);
        QUOTED.put(key, new boolean[section.length()]);
    }

    private static String between(String text, String from, String to) {
        int start = text.indexOf(from) + from.length();
        int end = text.indexOf(to, start);
        return text.substring(start, end < 0 ? text.length() : end);
    }

    static String face() {
        return faceBlock;
    }

    /** What follows holds a sentence of a section: a promise's number, or a part of the terms. */
    static void says(Object section, String sentence) {
        quotes++;
        needAnswers();
        latest = sentence;
        Due.about(section + " \"" + sentence + "\"");
        String text = SECTIONS.get("" + section);
        if (text == null) {
            return;
        }
        int at = text.indexOf(sentence);
        if (at < 0) {
            WRONG.add("not in section " + section + ": " + sentence);
            return;
        }
        for (int i = at; i < at + sentence.length(); i++) {
            QUOTED.get("" + section)[i] = true;
        }
    }

    /** A quote that no answer follows holds nothing. */
    private static void needAnswers() {
        if (Due.asked() == askedBefore) {
            WRONG.add("nothing is asked for: " + latest);
        }
        askedBefore = Due.asked();
    }

    static void end() {
        needAnswers();
        for (Map.Entry<String, String> section : SECTIONS.entrySet()) {
            boolean[] quoted = QUOTED.get(section.getKey());
            StringBuilder rest = new StringBuilder();
            for (int i = 0; i < quoted.length; i++) {
                rest.append(quoted[i] ? '\t' : section.getValue().charAt(i));
            }
            for (String part : rest.toString().split("\t+")) {
                if (part.matches(".*[A-Za-z0-9].*")) {
                    WRONG.add("no test holds, in section " + section.getKey() + ": " + part.trim());
                }
            }
        }
        Due.about("the document");
        for (String wrong : WRONG) {
            Due.is("a quote", "none amiss", () -> wrong);
        }
        System.out.println(quotes + " sentences");
    }
}
