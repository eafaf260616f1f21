import java.io.IOException;
import java.nio.charset.StandardCharsets;
import java.nio.file.Files;
import java.nio.file.Path;
import java.util.Map;
import java.util.TreeMap;
import java.util.regex.Matcher;
import java.util.regex.Pattern;

/**
 * Ties tests to the words of the document that they hold. Words that do not stand in their section,
 * words without an answer behind them, and words of a section that no test holds are failures.
 */
final class Words {
    private static final Map<String, Section> SECTIONS = new TreeMap<>();
    private static String open = "";
    private static int answersAhead = 0;

    private Words() {
    }

    private static final class Section {
        final String text;
        final boolean[] held;

        Section(String text) {
            this.text = text.replaceAll("\\s+", " ").trim();
            held = new boolean[this.text.length()];
        }

        boolean hold(String words) {
            int found = text.indexOf(words);
            for (int from = found; from >= 0; from = text.indexOf(words, from + 1)) {
                for (int i = 0; i < words.length(); i++) {
                    held[from + i] = true;
                }
            }
            return found >= 0;
        }

        /** The first stretch with a letter or a digit that no test holds; empty if there is none. */
        String missing() {
            for (int i = 0; i < held.length; i++) {
                if (!held[i] && Character.isLetterOrDigit(text.charAt(i))) {
                    return text.substring(i, Math.min(text.length(), i + 50));
                }
            }
            return "";
        }
    }

    static void read(Path document) throws IOException {
        String doc = Files.readString(document, StandardCharsets.UTF_8);
        Matcher promises = Pattern.compile("## Promise (\\d+): [^\n]*\n+`[^`]*`: ([^#]*)").matcher(doc);
        while (promises.find()) {
            SECTIONS.put("promise " + promises.group(1), new Section(promises.group(2)));
        }
        String terms = doc.substring(doc.indexOf("## Terms") + 8, doc.indexOf("## Promise 1:"));
        Matcher numbered = Pattern.compile("(?sm)^([IV]+)\\. (.*?)(?=^[IV]+\\. |\\z)").matcher(terms);
        while (numbered.find()) {
            SECTIONS.put("term " + numbered.group(1), new Section(numbered.group(2).replace("```text", "").replace("```", "")));
        }
    }

    /** The answers that follow hold these words of a promise. */
    static void hold(int promise, String words) {
        begin("promise " + promise, words);
    }

    /** The answers that follow hold these words of a term (I to VII). */
    static void hold(String term, String words) {
        begin("term " + term, words);
    }

    private static void begin(String name, String words) {
        close();
        open = name + " \"" + words + "\"";
        Section section = SECTIONS.get(name);
        Check.remark("");
        Check.due(open + " stands in the document", section != null && section.hold(words) ? 1 : 0, 1);
        Check.remark(open + ": ");
        answersAhead = Check.asked();
    }

    private static void close() {
        if (!open.isEmpty()) {
            int answers = Check.asked() - answersAhead;
            Check.due("has an answer", answers > 0 ? 1 : 0, 1);
        }
    }

    static void finish() {
        close();
        Check.remark("");
        Check.due("sections of the document", SECTIONS.size(), 62 + 7);
        for (Map.Entry<String, Section> section : SECTIONS.entrySet()) {
            String missing = section.getValue().missing();
            Check.due(section.getKey() + " is held, but for: " + missing, missing.length(), 0);
        }
    }
}
