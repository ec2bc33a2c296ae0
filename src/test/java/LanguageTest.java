import java.io.IOException;
import java.io.UncheckedIOException;
import java.lang.management.ManagementFactory;
import java.lang.reflect.Constructor;
import java.lang.reflect.Executable;
import java.lang.reflect.Field;
import java.lang.reflect.Member;
import java.lang.reflect.Method;
import java.lang.reflect.Modifier;
import java.nio.file.Files;
import java.nio.file.Path;
import java.util.ArrayList;
import java.util.List;
import java.util.Set;
import java.util.TreeSet;
import java.util.regex.Matcher;
import java.util.regex.Pattern;

/** What of LANGUAGE.md a program can see: the face, the static fields, forbidden words, the room. */
final class LanguageTest {
    private static final Path SOURCE = Path.of("src", "main", "java", "CueBook.java");

    private static final String[] FORBIDDEN = {
        "->", "::", "\\bcatch\\b", "\\bfinally\\b", "\\bassert\\b", "\\bsynchronized\\b", "\\bpackage\\b",
        "\\bprotected\\b", "\\bstatic\\s*\\{", "Exact\\(", "\\bvar\\b", "[^\\x00-\\x7f]",
        "import (?!java\\.util\\.(ArrayList|Arrays);)"
    };

    /** 7.3 million fields and elements are some 29 million bytes; the dearest run stays far below. */
    private static final long MOST_BYTES = 2_000_000;

    private final Checks checks = new Checks();

    public static void main(String[] args) {
        LanguageTest test = new LanguageTest();
        test.face();
        test.staticFields();
        test.words();
        test.room();
        test.checks.report("LanguageTest");
    }

    private void face() {
        checks.part("rule 1");
        Set<String> publics = new TreeSet<>();
        Set<String> names = new TreeSet<>();
        for (Constructor<?> constructor : CueBook.class.getConstructors()) {
            publics.add(signature(constructor, ""));
        }
        for (Method method : CueBook.class.getDeclaredMethods()) {
            if (Modifier.isPublic(method.getModifiers())) {
                publics.add(signature(method, method.getReturnType().getName() + " "));
                names.add(method.getName());
            }
        }
        checks.same("the public methods, and what they throw", publics, faceOfTheDocument());
        for (Method method : CueBook.class.getDeclaredMethods()) {
            if (!Modifier.isPublic(method.getModifiers())) {
                checks.same(method + " is private", isPrivate(method), true);
                checks.same(method + " has the name of a public one", names.contains(method.getName()), false);
            }
        }
        for (Field field : CueBook.class.getDeclaredFields()) {
            checks.same(field + " is private", isPrivate(field), true);
        }
        checks.same("CueBook is public and final", CueBook.class.getModifiers(), Modifier.PUBLIC | Modifier.FINAL);
        checks.same("public constructors", CueBook.class.getConstructors().length, 1);
        checks.same("constructors", CueBook.class.getDeclaredConstructors().length, 1);
        checks.same("public fields", CueBook.class.getFields().length, 0);
        checks.same("public classes inside", CueBook.class.getClasses().length, 0);
    }

    private static boolean isPrivate(Member member) {
        return Modifier.isPrivate(member.getModifiers());
    }

    private static Set<String> faceOfTheDocument() {
        Set<String> face = new TreeSet<>();
        for (String line : Document.textOf("The public face").split("\n")) {
            if (line.startsWith("    public ")) {
                String call = line.substring(11, line.length() - 1);
                face.add(call.replaceAll("([(,] ?\\w+) \\w+(?=[,)])", "$1").replace(", ", ","));
            }
        }
        return face;
    }

    private static String signature(Executable call, String returned) {
        StringBuilder text = new StringBuilder(returned).append(call.getName()).append('(');
        text.append(simpleNames(call.getParameterTypes())).append(')');
        String thrown = simpleNames(call.getExceptionTypes());
        return thrown.isEmpty() ? text.toString() : text.append(" throws ").append(thrown).toString();
    }

    private static String simpleNames(Class<?>[] types) {
        StringBuilder text = new StringBuilder();
        for (Class<?> type : types) {
            if (text.length() > 0) text.append(',');
            text.append(type.getSimpleName());
        }
        return text.toString();
    }

    /** The public methods behind a comment of the source, ahead of the next comment like it. */
    static List<String> publicMethodsBelow(String comment) {
        List<String> names = new ArrayList<>();
        boolean below = false;
        for (String line : source().split("\n")) {
            Matcher method = Pattern.compile("    public \\w+ (\\w+)\\(.*").matcher(line);
            if (line.startsWith("    // ")) {
                below = line.trim().equals(comment);
            } else if (below && method.matches()) {
                names.add(method.group(1));
            }
        }
        return names;
    }

    private static String source() {
        try {
            return Files.readString(SOURCE);
        } catch (IOException e) {
            throw new UncheckedIOException(e);
        }
    }

    private void staticFields() {
        checks.part("rule 5");
        for (Field field : CueBook.class.getDeclaredFields()) {
            if (Modifier.isStatic(field.getModifiers())) {
                checks.same(field + " is final", Modifier.isFinal(field.getModifiers()), true);
            }
        }
    }

    private void words() {
        checks.part("rules 2, 4 and 6");
        String source = source();
        for (String word : FORBIDDEN) {
            checks.same("a forbidden word, " + word, Pattern.compile(word).matcher(source).find(), false);
        }
    }

    /** 512 calls, as many changes among them as there can be, and the casting anew behind each. */
    private void room() {
        checks.part("the room");
        var threads = (com.sun.management.ThreadMXBean) ManagementFactory.getThreadMXBean();
        dearestRun();
        long before = threads.getThreadAllocatedBytes(Thread.currentThread().getId());
        int calls = dearestRun();
        long bytes = threads.getThreadAllocatedBytes(Thread.currentThread().getId()) - before;
        checks.same("calls of the run", calls, 512);
        checks.same("bytes of the run, " + bytes + ", are few", bytes < MOST_BYTES, true);
    }

    private static int dearestRun() {
        CueBook book = new CueBook();
        int calls = 0;
        for (int i = 0; i < 8; i++, calls++) book.addPuppet(1, 1);
        for (int i = 0; i < 5; i++, calls++) book.addPlayer(20, i);
        for (int i = 0; i < 40; i++) {
            if (i % 2 == 0) book.enter(0, i * 10, 5, 0);
            else book.leave(0, i * 10);
            book.digest();
            calls += 2;
        }
        for (int i = 39; i >= 20; i--) {
            book.strike(i);
            book.digest();
            calls += 2;
        }
        while (calls < 512) {
            refused(book);
            calls++;
        }
        return calls;
    }

    private static void refused(CueBook book) {
        try {
            book.enter(0, 5, 0, 0);
        } catch (IllegalStateException e) {
            return;
        }
        throw new AssertionError("the book is full");
    }
}
