import java.io.IOException;
import java.nio.file.Files;
import java.nio.file.Path;
import java.util.List;
import java.util.stream.Collectors;
import java.util.stream.Stream;

/** Each section of the document has a test that goes through its sentences. */
final class DocumentTest {
    private static final Path TESTS = Path.of("src", "test", "java");

    public static void main(String[] args) throws IOException {
        Checks checks = new Checks();
        String tests = sourceOfTests();
        List<String> headings = Document.headings();
        for (String heading : headings) {
            if (!heading.equals("Not promised")) {
                checks.same("a test opens \"" + heading + "\"", tests.contains("(\"" + heading + "\""), true);
            }
        }
        for (int promise = 1; promise <= 25; promise++) {
            String begin = "Promise " + promise + ": ";
            checks.same("headings of promise " + promise,
                    headings.stream().filter(h -> h.startsWith(begin)).count(), 1);
        }
        checks.report("DocumentTest");
    }

    private static String sourceOfTests() throws IOException {
        try (Stream<Path> files = Files.list(TESTS)) {
            return files.map(DocumentTest::read).collect(Collectors.joining());
        }
    }

    private static String read(Path file) {
        try {
            return Files.readString(file);
        } catch (IOException e) {
            throw new java.io.UncheckedIOException(e);
        }
    }
}
