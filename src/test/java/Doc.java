import java.io.IOException;
import java.nio.file.Files;
import java.nio.file.Path;
import java.util.BitSet;
import java.util.LinkedHashMap;
import java.util.Map;
import java.util.regex.Matcher;
import java.util.regex.Pattern;

/**
 * The document by its sections, so that each test of a sentence names one that stands there, and none is left out.
 * A section is "Head", "Face", "Terms" (ahead of its five parts), "Terms 1" to "Terms 5", "Promise 1" to
 * "Promise 44", or "Not promised".
 */
final class Doc {
    private static final Path FILE = Path.of("../shared/DOC.md");
    private static final String LAST = "## Not promised";
    private static final Map<String, String> SECTIONS = new LinkedHashMap<>();
    private static final Map<String, BitSet> SAID = new LinkedHashMap<>();
    private static int sentences = 0;

    private Doc() {
    }

    /** What is asked from here on is due by this sentence. */
    static void says(String section, String sentence) {
        sentences++;
        Due.by(section + ": " + sentence);
        cover(section, sentence);
    }

    /** A stretch of the document that names nothing that could be tested by calls. */
    static void saysBeside(String section, String stretch) {
        Due.by(section + ": " + stretch);
        cover(section, stretch);
    }

    private static void cover(String section, String sentence) {
        read();
        String text = SECTIONS.get(section);
        if (text == null) {
            Due.isTrue(SECTIONS.isEmpty(), "there is no such section");
            return;
        }
        String words = squeezed(sentence);
        int at = text.indexOf(words);
        Due.isTrue(at >= 0, "the section has no such sentence");
        for (; at >= 0; at = text.indexOf(words, at + 1)) {
            SAID.get(section).set(at, at + words.length());
        }
    }

    /** Each letter and digit of each section belongs to a sentence that was named. */
    static void isWhole() {
        for (Map.Entry<String, String> each : SECTIONS.entrySet()) {
            String text = each.getValue();
            BitSet said = SAID.get(each.getKey());
            StringBuilder left = new StringBuilder();
            for (int i = 0; i < text.length(); i++) {
                left.append(said.get(i) ? ' ' : text.charAt(i));
            }
            boolean isNone = left.chars().noneMatch(Character::isLetterOrDigit);
            Due.by("");
            Due.isTrue(isNone, each.getKey() + " is not tested: " + squeezed(left.toString()));
        }
        System.out.println(sentences + " sentences of " + SECTIONS.size() + " sections");
    }

    private static void read() {
        if (!SECTIONS.isEmpty() || !Files.isReadable(FILE)) {
            return;
        }
        try {
            part(Files.readString(FILE));
        } catch (IOException e) {
            throw new IllegalStateException("the document can't be read", e);
        }
        SECTIONS.replaceAll((name, text) -> squeezed(text.replaceAll("```\\w*", " ")));
        SECTIONS.keySet().forEach(name -> SAID.put(name, new BitSet()));
    }

    private static void part(String all) {
        SECTIONS.put("Head", between(all, "## What it is", "## The public face"));
        SECTIONS.put("Face", between(all, "## The public face", "## Terms"));
        String terms = between(all, "## Terms", "## Promise 1:");
        String[] parts = terms.split("======== \\d");
        SECTIONS.put("Terms", parts[0]);
        for (int i = 1; i < parts.length; i++) {
            SECTIONS.put("Terms " + i, parts[i]);
        }
        Matcher m = Pattern.compile("(?s)## Promise (\\d+): [^\n]*\n+`[^`]*`: (.*?)(?=\n## )").matcher(all);
        while (m.find()) {
            SECTIONS.put("Promise " + m.group(1), m.group(2));
        }
        SECTIONS.put("Not promised", all.substring(all.indexOf(LAST) + LAST.length()));
        Due.is(2 + 6 + 44 + 1, SECTIONS.size());
    }

    private static String between(String all, String from, String to) {
        int start = all.indexOf(from) + from.length();
        return all.substring(start, all.indexOf(to, start));
    }

    private static String squeezed(String text) {
        return text.replaceAll("\\s+", " ").trim();
    }
}
