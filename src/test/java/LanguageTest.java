import java.io.IOException;
import java.lang.management.ManagementFactory;
import java.lang.reflect.Field;
import java.lang.reflect.Member;
import java.lang.reflect.Method;
import java.lang.reflect.Modifier;
import java.nio.file.Files;
import java.nio.file.Path;
import java.util.Set;
import java.util.TreeSet;
import java.util.regex.Pattern;

/** What of LANGUAGE.md a program can see: the face, the static fields, forbidden words, the room. */
final class LanguageTest {
    private static final Path SOURCE = Path.of("src", "main", "java", "CueBook.java");

    private static final String[] FACE = {
        "int addPlayer(int,int)", "int addPuppet(int,int)", "int beats(int)", "int clash(int,int)",
        "int clashes()", "int count(int)", "int cue(int,int)", "long digest()",
        "int enter(int,int,int,int)", "int hands(int,int)", "int leave(int,int)", "int load(int)",
        "double mean(int)", "int move(int,int,int)", "int note(int,int)", "int onStage(int)",
        "int place(int,int)", "int shift(int,int,int)", "int stay(int,int,int)", "int stays(int)",
        "int strike(int)", "int track(int,int)", "int uncast()", "int worst()"
    };

    private static final String[] FORBIDDEN = {
        "->", "::", "\\bcatch\\b", "\\bfinally\\b", "\\bassert\\b", "\\bsynchronized\\b", "\\bpackage\\b",
        "\\bprotected\\b", "\\bstatic\\s*\\{", "Exact\\(", "\\bvar\\b", "[^\\x00-\\x7f]",
        "import (?!java\\.util\\.(ArrayList|Arrays);)"
    };

    /** 7.3 million fields and elements are some 29 million bytes; the dearest run stays far below. */
    private static final long MOST_BYTES = 2_000_000;

    private final Checks checks = new Checks();

    public static void main(String[] args) throws IOException {
        LanguageTest test = new LanguageTest();
        test.face();
        test.staticFields();
        test.words();
        test.room();
        test.checks.report("LanguageTest");
    }

    private void face() {
        checks.part("rule 1");
        Set<String> publics = new TreeSet<>();
        Set<String> names = new TreeSet<>();
        for (Method method : CueBook.class.getDeclaredMethods()) {
            if (Modifier.isPublic(method.getModifiers())) {
                publics.add(signature(method));
                names.add(method.getName());
            }
        }
        Set<String> due = new TreeSet<>(Set.of(FACE));
        checks.same("the public methods", publics, due);
        for (Method method : CueBook.class.getDeclaredMethods()) {
            if (!Modifier.isPublic(method.getModifiers())) {
                checks.same(method + " is private", isPrivate(method), true);
                checks.same(method + " has the name of a public one", names.contains(method.getName()), false);
            }
        }
        for (Field field : CueBook.class.getDeclaredFields()) {
            checks.same(field + " is private", isPrivate(field), true);
        }
        checks.same("CueBook is public and final", CueBook.class.getModifiers(), Modifier.PUBLIC | Modifier.FINAL);
        checks.same("public constructors", CueBook.class.getConstructors().length, 1);
        checks.same("constructors", CueBook.class.getDeclaredConstructors().length, 1);
        checks.same("public fields", CueBook.class.getFields().length, 0);
        checks.same("public classes inside", CueBook.class.getClasses().length, 0);
    }

    private static boolean isPrivate(Member member) {
        return Modifier.isPrivate(member.getModifiers());
    }

    private static String signature(Method method) {
        StringBuilder text = new StringBuilder();
        text.append(method.getReturnType().getName()).append(' ').append(method.getName()).append('(');
        for (Class<?> type : method.getParameterTypes()) {
            if (text.charAt(text.length() - 1) != '(') text.append(',');
            text.append(type.getName());
        }
        return text.append(')').toString();
    }

    private void staticFields() {
        checks.part("rule 5");
        for (Field field : CueBook.class.getDeclaredFields()) {
            if (Modifier.isStatic(field.getModifiers())) {
                checks.same(field + " is final", Modifier.isFinal(field.getModifiers()), true);
            }
        }
    }

    private void words() throws IOException {
        checks.part("rules 2, 4 and 6");
        String source = Files.readString(SOURCE);
        for (String word : FORBIDDEN) {
            checks.same("a forbidden word, " + word, Pattern.compile(word).matcher(source).find(), false);
        }
    }

    /** 512 calls, as many changes among them as there can be, and the casting anew behind each. */
    private void room() {
        checks.part("the room");
        var threads = (com.sun.management.ThreadMXBean) ManagementFactory.getThreadMXBean();
        dearestRun();
        long before = threads.getThreadAllocatedBytes(Thread.currentThread().getId());
        int calls = dearestRun();
        long bytes = threads.getThreadAllocatedBytes(Thread.currentThread().getId()) - before;
        checks.same("calls of the run", calls, 512);
        checks.same("bytes of the run, " + bytes + ", are few", bytes < MOST_BYTES, true);
    }

    private static int dearestRun() {
        CueBook book = new CueBook();
        int calls = 0;
        for (int i = 0; i < 8; i++, calls++) book.addPuppet(1, 1);
        for (int i = 0; i < 5; i++, calls++) book.addPlayer(20, i);
        for (int i = 0; i < 40; i++) {
            if (i % 2 == 0) book.enter(0, i * 10, 5, 0);
            else book.leave(0, i * 10);
            book.digest();
            calls += 2;
        }
        for (int i = 39; i >= 20; i--) {
            book.strike(i);
            book.digest();
            calls += 2;
        }
        while (calls < 512) {
            refused(book);
            calls++;
        }
        return calls;
    }

    private static void refused(CueBook book) {
        try {
            book.enter(0, 5, 0, 0);
        } catch (IllegalStateException e) {
            return;
        }
        throw new AssertionError("the book is full");
    }
}
