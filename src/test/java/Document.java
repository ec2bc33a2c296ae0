import java.io.IOException;
import java.io.UncheckedIOException;
import java.nio.file.Files;
import java.nio.file.Path;
import java.util.ArrayList;
import java.util.List;

/**
 * The words of ../shared/DOC.md. A test opens a section, and then names each of its sentences and
 * checks it: a sentence that the document does not say, one without a check, and a section with
 * words left over are failures. So each sentence has a test, and is found in it by its words.
 */
final class Document {
    private static final Path FILE = Path.of("..", "shared", "DOC.md");

    private final Checks checks;
    private String section = "";
    private String sentence = "";
    private String wordsLeft = "";
    private int madeBefore = 0;

    Document(Checks checks) {
        this.checks = checks;
    }

    static List<String> headings() {
        List<String> list = new ArrayList<>();
        for (String line : read().split("\n")) {
            if (line.startsWith("## ")) {
                list.add(line.substring(3));
            }
        }
        return list;
    }

    /** The text below a heading, its lines as they are; empty if there is no such heading. */
    static String textOf(String heading) {
        StringBuilder text = new StringBuilder();
        boolean inside = false;
        for (String line : read().split("\n")) {
            if (line.startsWith("## ")) {
                inside = line.substring(3).equals(heading);
            } else if (inside) {
                text.append(line).append('\n');
            }
        }
        return text.toString();
    }

    private static String read() {
        try {
            return Files.readString(FILE);
        } catch (IOException e) {
            throw new UncheckedIOException(e);
        }
    }

    void section(String heading) {
        open(heading, inOneLine(textOf(heading)));
    }

    /** Of a section only what stands from some words on, ahead of others (empty: to its end). */
    void section(String heading, String from, String to) {
        String whole = inOneLine(textOf(heading));
        int begin = whole.indexOf(from);
        int end = to.isEmpty() ? whole.length() : whole.indexOf(to);
        open(heading, begin < 0 || end < begin ? "" : whole.substring(begin, end));
    }

    private void open(String heading, String words) {
        end();
        section = heading;
        wordsLeft = words;
        checks.part(heading);
        checks.same("the document has this section", !words.isEmpty(), true);
    }

    private static String inOneLine(String text) {
        String words = text.replace("```text", " ").replace("```", " ").replaceAll("\\s+", " ").trim();
        return words.replaceFirst("^`[^`]*`:", "");
    }

    /** All checks from here to the next sentence are the test of this one. */
    void says(String words) {
        endSentence();
        sentence = words;
        checks.part(section + ", \"" + words + "\"");
        int at = wordsLeft.indexOf(words);
        checks.same("the document says this", at >= 0, true);
        if (at >= 0) {
            wordsLeft = wordsLeft.substring(0, at) + " | " + wordsLeft.substring(at + words.length());
        }
        madeBefore = checks.made();
    }

    private void endSentence() {
        if (!sentence.isEmpty()) {
            checks.same("it is checked", checks.made() > madeBefore, true);
            sentence = "";
        }
    }

    void end() {
        endSentence();
        if (!section.isEmpty()) {
            checks.part(section);
            checks.same("words without a test: " + wordsLeft, wordsLeft.matches("[^A-Za-z0-9]*"), true);
            section = "";
        }
    }
}
