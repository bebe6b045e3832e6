import java.io.IOException;
import java.nio.file.Files;
import java.nio.file.Path;
import java.util.Arrays;
import java.util.LinkedHashMap;
import java.util.Map;

/** The document's sections, and which of their words a test has quoted. */
final class Document {
    private static final Path FILE = Path.of("../shared/DOC.md");
    private static final int PROMISES = 19;

    private record Section(String text, boolean[] quoted) {
    }

    private final Map<String, Section> sections = new LinkedHashMap<>();

    Document() throws IOException {
        if (!isThere()) {
            System.out.println(FILE + " isn't there: the words that the tests quote are not looked up");
            return;
        }
        for (String part : Files.readString(FILE).split("(?m)^## ")) {
            String title = part.split("[:\n]")[0].strip();
            if (title.equals("What it is") || title.equals("Terms") || title.startsWith("Promise ")) {
                String text = words(part);
                sections.put(title, new Section(text, new boolean[text.length()]));
            }
        }
        Check.part("DOC.md");
        Check.due("its sections", sections.size(), 2 + PROMISES);
    }

    private static boolean isThere() {
        return Files.exists(FILE);
    }

    /** Without the heading, the fences, and the line breaks; a promise without what it is called by. */
    private static String words(String part) {
        String text = part.substring(part.indexOf('\n')).replaceAll("```(text)?", " ").replaceAll("\\s+", " ").strip();
        return part.startsWith("Promise") ? text.replaceFirst("^`[^`]*`: ", "") : text;
    }

    /** The words stand in the promise itself, or in what is told of all of them. */
    void quote(int promise, String words) {
        boolean inPromise = mark("Promise " + promise, words);
        boolean inTerms = mark("Terms", words);
        boolean inBeginning = mark("What it is", words);
        Check.that("the document has these words", inPromise || inTerms || inBeginning || !isThere());
    }

    void quotePlain(String words) {
        boolean found = false;
        for (String title : sections.keySet()) {
            found |= mark(title, words);
        }
        Check.that("the document has the words: " + words, found || !isThere());
    }

    private boolean mark(String title, String words) {
        Section section = sections.get(title);
        int at = section == null ? -1 : section.text.indexOf(words);
        if (at < 0) {
            return false;
        }
        Arrays.fill(section.quoted, at, at + words.length(), true);
        return true;
    }

    /** No word of the document is left that nothing quotes. */
    void allQuoted() {
        for (Map.Entry<String, Section> entry : sections.entrySet()) {
            StringBuilder left = new StringBuilder();
            Section section = entry.getValue();
            for (int at = 0; at < section.quoted.length; at++) {
                left.append(section.quoted[at] ? ' ' : section.text.charAt(at));
            }
            String words = left.toString().replaceAll("\\s+", " ").strip();
            Check.part(entry.getKey());
            Check.that("no test quotes the words: " + words, words.matches("[^A-Za-z0-9]*"));
        }
    }
}
