import java.io.IOException;
import java.lang.reflect.Method;
import java.lang.reflect.Modifier;
import java.nio.file.Files;
import java.nio.file.Path;
import java.util.ArrayList;
import java.util.List;

/** README.md: its example answers what the comments there say, and it tells of each call. */
final class ReadmeTest {
    private static final Path README = Path.of("README.md");
    private static final Path THIS = Path.of("src", "test", "java", "ReadmeTest.java");

    public static void main(String[] args) throws IOException {
        Checks checks = new Checks();
        checks.part("README.md");
        List<String> lines = exampleLines();
        checks.same("this test has the lines of the example, one by one", linesBelow("// the example"), codeOf(lines));
        checks.same("what the example answers", example(), answersOf(lines));
        String text = Files.readString(README);
        for (Method method : CueBook.class.getDeclaredMethods()) {
            if (Modifier.isPublic(method.getModifiers())) {
                checks.same("it tells of " + method.getName(), text.contains("`" + method.getName() + "("), true);
            }
        }
        checks.report("ReadmeTest");
    }

    private static List<String> example() {
        // the example
        CueBook book = new CueBook();
        int cat = book.addPuppet(3, 1);
        int anna = book.addPlayer(7, 0);
        int comes = book.enter(cat, 10, 5, 1);
        int walks = book.move(cat, 12, 9);
        int goes = book.leave(cat, 16);
        int where = book.place(cat, 14);
        int who = book.stay(cat, 0, 2);
        int held = book.hands(anna, 13);
        int noted = book.note(walks, -3);
        double mean = book.mean(walks);

        List<String> answers = new ArrayList<>();
        for (int answer : new int[] {cat, anna, comes, walks, goes, where, who, held, noted}) {
            answers.add(String.valueOf(answer));
        }
        answers.add(String.valueOf(mean));
        return answers;
    }

    private static List<String> exampleLines() throws IOException {
        List<String> lines = new ArrayList<>();
        boolean inside = false;
        for (String line : Files.readAllLines(README)) {
            if (line.startsWith("```")) {
                inside = line.equals("```java");
            } else if (inside) {
                lines.add(line);
            }
        }
        return lines;
    }

    private static List<String> codeOf(List<String> lines) {
        List<String> code = new ArrayList<>();
        for (String line : lines) {
            code.add(line.replaceFirst("//.*", "").trim());
        }
        return code;
    }

    /** What the comments say: a number, and perhaps a colon and words behind it. */
    private static List<String> answersOf(List<String> lines) {
        List<String> answers = new ArrayList<>();
        for (String line : lines) {
            if (line.contains("// ")) {
                answers.add(line.replaceFirst(".*// ", "").replaceFirst(":.*", ""));
            }
        }
        return answers;
    }

    /** The lines of this file from a comment's next one on, ahead of an empty one. */
    private static List<String> linesBelow(String comment) throws IOException {
        List<String> below = new ArrayList<>();
        boolean inside = false;
        for (String line : Files.readAllLines(THIS)) {
            if (line.trim().equals(comment)) {
                inside = true;
            } else if (line.isBlank()) {
                inside = false;
            } else if (inside) {
                below.add(line.trim());
            }
        }
        return below;
    }
}
