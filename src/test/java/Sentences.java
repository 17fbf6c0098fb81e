import java.io.IOException;
import java.nio.file.Files;
import java.nio.file.Path;
import java.util.LinkedHashMap;
import java.util.Map;

/**
 * The document's sentences: a test quotes the one that it is for, and in the end each part of the
 * document has to be quoted by a test. A quote that the document does not hold fails.
 */
final class Sentences {
    private static final Map<String, String> TEXTS = new LinkedHashMap<>();
    private static final Map<String, boolean[]> QUOTED = new LinkedHashMap<>();
    private static String section = "";
    private static String sentence = "";

    private Sentences() {
    }

    /** Reads the sections; of a promise without the declaration ahead of its first sentence, which FaceTest looks at. */
    static void read(Path document) throws IOException {
        for (String part : Files.readString(document).split("(?m)^## ")) {
            int end = part.indexOf('\n');
            String name = part.substring(0, end).trim().replaceFirst("^(Promise \\d+):.*$", "$1");
            String text = part.substring(end).trim();
            if (name.startsWith("Promise")) text = text.replaceFirst("^`[^`]*`: ", "");
            text = text.replace("```text", " ").replace("`", "").replaceAll("\\s+", " ").trim();
            TEXTS.put(name, text);
            QUOTED.put(name, new boolean[text.length()]);
        }
    }

    static void open(String name) {
        section = name;
        sentence = "";
        Check.same("the document has the section " + name, TEXTS.containsKey(name), true);
    }

    /** What follows is the test of these words. */
    static void says(String words) {
        sentence = words;
        String text = TEXTS.getOrDefault(section, "");
        int at = text.indexOf(words);
        Check.same(section + " says: " + words, at >= 0, true);
        for (int from = at; from >= 0; from = text.indexOf(words, from + 1)) {
            java.util.Arrays.fill(QUOTED.get(section), from, from + words.length(), true);
        }
    }

    /** Where a test stands, for its messages. */
    static String here() {
        return section + ", \"" + (sentence.length() > 60 ? sentence.substring(0, 60) + ".." : sentence) + "\"";
    }

    /** Tells all words of 'What it is', of 'Terms' and of the promises that no test quotes. */
    static void tellGaps() {
        int sections = 0;
        for (String name : TEXTS.keySet()) {
            if (!name.equals("What it is") && !name.equals("Terms") && !name.startsWith("Promise")) continue;
            sections++;
            String text = TEXTS.get(name);
            StringBuilder gaps = new StringBuilder();
            for (int at = 0; at < text.length(); at++) {
                char sign = QUOTED.get(name)[at] ? '_' : text.charAt(at);
                if (sign != '_' || gaps.length() > 0 && gaps.charAt(gaps.length() - 1) != '_') gaps.append(sign);
            }
            Check.same(name + ": words without a test", gaps.toString().replaceAll("[_\\s]+", " ").trim(), "");
        }
        Check.same("sections", sections, 67);
    }
}
