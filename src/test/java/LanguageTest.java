import java.io.IOException;
import java.io.UncheckedIOException;
import java.lang.management.ManagementFactory;
import java.lang.reflect.Constructor;
import java.lang.reflect.Executable;
import java.lang.reflect.Field;
import java.lang.reflect.Member;
import java.lang.reflect.Method;
import java.lang.reflect.Modifier;
import java.nio.file.Files;
import java.nio.file.Path;
import java.util.ArrayList;
import java.util.HashSet;
import java.util.List;
import java.util.Set;
import java.util.TreeSet;
import java.util.regex.Matcher;
import java.util.regex.Pattern;

/** What of LANGUAGE.md a program can see: the face, the static fields, forbidden words, the room. */
final class LanguageTest {
    private static final Path SOURCE = Path.of("src", "main", "java", "CueBook.java");

    private static final String[] FORBIDDEN = {
        "->", "::", "\\bcatch\\b", "\\bfinally\\b", "\\bassert\\b", "\\bsynchronized\\b", "\\bpackage\\b",
        "\\bprotected\\b", "\\bstatic\\s*\\{", "Exact\\(", "\\bvar\\b", "[^\\x00-\\x7f]",
        "import (?!java\\.util\\.(ArrayList|Arrays);)"
    };

    /** What of the library CueBook may call, of what rules 4 and 6 let it call. */
    private static final Set<String> LIBRARY = Set.of(
        "java.lang.Object.<init>", "java.lang.Math.abs", "java.util.Arrays.fill",
        "java.util.ArrayList.<init>", "java.util.ArrayList.add", "java.util.ArrayList.clear",
        "java.util.ArrayList.get", "java.util.ArrayList.isEmpty", "java.util.ArrayList.remove",
        "java.util.ArrayList.set", "java.util.ArrayList.size",
        "java.lang.IllegalArgumentException.<init>", "java.lang.IllegalStateException.<init>",
        "java.lang.IndexOutOfBoundsException.<init>");

    /** 7.3 million fields and elements are some 29 million bytes; the dearest run stays far below. */
    private static final long MOST_BYTES = 2_000_000;

    private final Checks checks = new Checks();

    public static void main(String[] args) {
        LanguageTest test = new LanguageTest();
        test.face();
        test.classesInside();
        test.fields();
        test.usedOfTheLibrary();
        test.words();
        test.sizes();
        test.room();
        test.checks.report("LanguageTest");
    }

    private void face() {
        checks.part("rule 1");
        Set<String> publics = new TreeSet<>();
        Set<String> names = new TreeSet<>();
        for (Constructor<?> constructor : CueBook.class.getConstructors()) {
            publics.add(signature(constructor, ""));
        }
        for (Method method : CueBook.class.getDeclaredMethods()) {
            if (Modifier.isPublic(method.getModifiers())) {
                publics.add(signature(method, method.getReturnType().getName() + " "));
                names.add(method.getName());
            }
        }
        checks.same("the public methods, and what they throw", publics, faceOfTheDocument());
        for (Method method : CueBook.class.getDeclaredMethods()) {
            if (!Modifier.isPublic(method.getModifiers())) {
                checks.same(method + " is private", isPrivate(method), true);
                checks.same(method + " has the name of a public one", names.contains(method.getName()), false);
            }
        }
        for (Field field : CueBook.class.getDeclaredFields()) {
            checks.same(field + " is private", isPrivate(field), true);
        }
        checks.same("CueBook is public and final", CueBook.class.getModifiers(), Modifier.PUBLIC | Modifier.FINAL);
        checks.same("public constructors", CueBook.class.getConstructors().length, 1);
        checks.same("constructors", CueBook.class.getDeclaredConstructors().length, 1);
        checks.same("public fields", CueBook.class.getFields().length, 0);
        checks.same("public classes inside", CueBook.class.getClasses().length, 0);
    }

    private static boolean isPrivate(Member member) {
        return Modifier.isPrivate(member.getModifiers());
    }

    private static Set<String> faceOfTheDocument() {
        Set<String> face = new TreeSet<>();
        for (String line : Document.textOf("The public face").split("\n")) {
            if (line.startsWith("    public ")) {
                String call = line.substring(11, line.length() - 1);
                face.add(call.replaceAll("([(,] ?\\w+) \\w+(?=[,)])", "$1").replace(", ", ","));
            }
        }
        return face;
    }

    private static String signature(Executable call, String returned) {
        StringBuilder text = new StringBuilder(returned).append(call.getName()).append('(');
        text.append(simpleNames(call.getParameterTypes())).append(')');
        String thrown = simpleNames(call.getExceptionTypes());
        return thrown.isEmpty() ? text.toString() : text.append(" throws ").append(thrown).toString();
    }

    private static String simpleNames(Class<?>[] types) {
        StringBuilder text = new StringBuilder();
        for (Class<?> type : types) {
            if (text.length() > 0) text.append(',');
            text.append(type.getSimpleName());
        }
        return text.toString();
    }

    /** The public methods behind a comment of the source, ahead of the next comment like it. */
    static List<String> publicMethodsBelow(String comment) {
        List<String> names = new ArrayList<>();
        boolean below = false;
        for (String line : source().split("\n")) {
            Matcher method = Pattern.compile("    public \\w+ (\\w+)\\(.*").matcher(line);
            if (line.startsWith("    // ")) {
                below = line.trim().equals(comment);
            } else if (below && method.matches()) {
                names.add(method.group(1));
            }
        }
        return names;
    }

    private static String source() {
        try {
            return Files.readString(SOURCE);
        } catch (IOException e) {
            throw new UncheckedIOException(e);
        }
    }

    /** The class of the document, and those inside it. */
    private static List<Class<?>> allClasses() {
        List<Class<?>> all = new ArrayList<>(List.of(CueBook.class));
        for (int i = 0; i < all.size(); i++) {
            all.addAll(List.of(all.get(i).getDeclaredClasses()));
        }
        return all;
    }

    private void classesInside() {
        checks.part("rules 1 and 2");
        Set<String> face = new TreeSet<>();
        for (Method method : CueBook.class.getMethods()) {
            face.add(method.getName());
        }
        for (Class<?> inside : CueBook.class.getDeclaredClasses()) {
            checks.same(inside + " is static", Modifier.isStatic(inside.getModifiers()), true);
            for (Method method : inside.getDeclaredMethods()) {
                checks.same(method + " has the name of a public one, or of Object's",
                        face.contains(method.getName()), false);
            }
        }
    }

    private void fields() {
        checks.part("rules 3 and 5");
        Set<Class<?>> allowed = new HashSet<>(allClasses());
        allowed.addAll(List.of(int.class, long.class, boolean.class, int[].class, ArrayList.class));
        for (Class<?> owner : allClasses()) {
            for (Field field : owner.getDeclaredFields()) {
                checks.same(field + " is of a type that is allowed", allowed.contains(field.getType()), true);
                if (Modifier.isStatic(field.getModifiers())) {
                    checks.same(field + " is final", Modifier.isFinal(field.getModifiers()), true);
                    checks.same(field + " is a plain constant", field.getType(), int.class);
                }
            }
        }
    }

    private void usedOfTheLibrary() {
        checks.part("rules 4, 6, 10 and 13");
        for (Class<?> user : allClasses()) {
            ClassFile file = new ClassFile(user);
            checks.same(user + " has a lambda, or joins texts by +", file.hasDynamicCalls(), false);
            for (String call : file.usedMembers()) {
                boolean isOwn = call.startsWith("CueBook.") || call.startsWith("CueBook$");
                checks.same(user + " uses " + call + ", which is its own or allowed",
                        isOwn || LIBRARY.contains(call), true);
            }
        }
    }

    private void sizes() {
        checks.part("rule 11");
        checks.same("at most 12 classes", allClasses().size() <= 12, true);
        for (Class<?> owner : allClasses()) {
            int fields = 0;
            for (Field field : owner.getDeclaredFields()) {
                if (!Modifier.isStatic(field.getModifiers())) fields++;
            }
            checks.same(owner + " has at most 20 fields", fields <= 20, true);
            List<Executable> bodies = new ArrayList<>(List.of(owner.getDeclaredMethods()));
            bodies.addAll(List.of(owner.getDeclaredConstructors()));
            for (Executable body : bodies) {
                checks.same(body + " has at most 7 parameters", body.getParameterCount() <= 7, true);
            }
        }
        checks.same("lines of the longest method, at most 60", longestMethod() <= 60, true);
    }

    /** From each closing brace where a method can end back to the line that began it. */
    private static int longestMethod() {
        String[] lines = source().split("\n");
        int longest = 0;
        for (int end = 0; end < lines.length; end++) {
            Matcher closing = Pattern.compile("( {4}| {8})}").matcher(lines[end]);
            if (!closing.matches()) continue;
            int begin = end - 1;
            while (!lines[begin].matches(closing.group(1) + "\\S.*")) begin--;
            if (!lines[begin].contains(" class ")) longest = Math.max(longest, end - begin + 1);
        }
        return longest;
    }

    private void words() {
        checks.part("rules 2, 4 and 6");
        String source = source();
        for (String word : FORBIDDEN) {
            checks.same("a forbidden word, " + word, Pattern.compile(word).matcher(source).find(), false);
        }
    }

    /** 512 calls, as many changes among them as there can be, and the casting anew behind each. */
    private void room() {
        checks.part("the room");
        var threads = (com.sun.management.ThreadMXBean) ManagementFactory.getThreadMXBean();
        dearestRun();
        long before = threads.getThreadAllocatedBytes(Thread.currentThread().getId());
        int calls = dearestRun();
        long bytes = threads.getThreadAllocatedBytes(Thread.currentThread().getId()) - before;
        checks.same("calls of the run", calls, 512);
        checks.same("bytes of the run, " + bytes + ", are few", bytes < MOST_BYTES, true);
    }

    private static int dearestRun() {
        CueBook book = new CueBook();
        int calls = 0;
        for (int i = 0; i < 8; i++, calls++) book.addPuppet(1, 1);
        for (int i = 0; i < 5; i++, calls++) book.addPlayer(20, i);
        for (int i = 0; i < 40; i++) {
            if (i % 2 == 0) book.enter(0, i * 10, 5, 0);
            else book.leave(0, i * 10);
            book.digest();
            calls += 2;
        }
        for (int i = 39; i >= 20; i--) {
            book.strike(i);
            book.digest();
            calls += 2;
        }
        while (calls < 512) {
            refused(book);
            calls++;
        }
        return calls;
    }

    private static void refused(CueBook book) {
        try {
            book.enter(0, 5, 0, 0);
        } catch (IllegalStateException e) {
            return;
        }
        throw new AssertionError("the book is full");
    }
}
