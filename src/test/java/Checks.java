import java.util.ArrayList;
import java.util.IdentityHashMap;
import java.util.List;
import java.util.Map;

/** Counts what was checked and what was wrong; every test of the project ends with report(). */
final class Checks {
    /** A call of a book; its answer as a text, so that a double and a long are told in one way. */
    interface Call {
        Object on(CueBook book);
    }

    /** A call with one argument that is tried with several values. */
    interface CallWith {
        Object on(CueBook book, int x);
    }

    /** Calls that bring a new book to where a test begins. */
    interface Scene {
        void set(CueBook book);

        default Scene then(Scene more) {
            return book -> {
                set(book);
                more.set(book);
            };
        }
    }

    static final Class<IndexOutOfBoundsException> INDEX = IndexOutOfBoundsException.class;
    static final Class<IllegalArgumentException> ARGUMENT = IllegalArgumentException.class;
    static final Class<IllegalStateException> STATE = IllegalStateException.class;

    /** The document promises nothing behind an object's 512th call: a picture stays below it. */
    private static final int CALLS_OF_A_BOOK = 300;

    private int made = 0;
    private int wrong = 0;
    private String part = "";
    /** What a scene tells is the same each time, and dear to ask for. */
    private final Map<Scene, List<String>> pictures = new IdentityHashMap<>();

    void part(String name) {
        part = name;
    }

    int made() {
        return made;
    }

    /** The first values that are not allowed on each side of a range, and the farthest ones. */
    static int[] outside(int least, int most) {
        return new int[] {least - 1, most + 1, Integer.MIN_VALUE, Integer.MAX_VALUE};
    }

    void same(String what, Object got, Object due) {
        made++;
        if (!String.valueOf(got).equals(String.valueOf(due))) {
            wrong++;
            System.out.println(part + ": " + what + " answered " + got + ", due is " + due);
        }
    }

    /** The call answers what is due, on a new book behind the scene. */
    void answers(Scene scene, String what, Call call, Object due) {
        CueBook book = new CueBook();
        scene.set(book);
        same(what, outcome(book, call), due);
    }

    /** The call throws just this exception, and all that the book tells is as without the call. */
    void refuses(Scene scene, String what, Call call, Class<? extends RuntimeException> due) {
        CueBook book = new CueBook();
        scene.set(book);
        same(what, outcome(book, call), "throws." + due.getSimpleName());
        samePictures(what, pictures.computeIfAbsent(scene, Checks::picture), picture(b -> {
            scene.set(b);
            outcome(b, call);
        }));
    }

    void throwsSomething(Scene scene, String what, Call call) {
        CueBook book = new CueBook();
        scene.set(book);
        String got = outcome(book, call);
        same(what + " throws, answering " + got, got.startsWith("throws."), true);
    }

    /** As answers(), with each of the values at the place of the # of the call's name. */
    void answersEach(Scene scene, String what, int[] values, CallWith call, Object due) {
        for (int x : values) {
            answers(scene, what.replace("#", String.valueOf(x)), b -> call.on(b, x), due);
        }
    }

    /** As refuses(), with each of the values at the place of the # of the call's name. */
    void refusesEach(Scene scene, String what, int[] values, CallWith call,
            Class<? extends RuntimeException> due) {
        for (int x : values) {
            refuses(scene, what.replace("#", String.valueOf(x)), b -> call.on(b, x), due);
        }
    }

    /** All that a book tells behind the one scene, it tells behind the other, too. */
    void sameBooks(String what, Scene one, Scene other) {
        samePictures(what, pictures.computeIfAbsent(one, Checks::picture), picture(other));
    }

    private void samePictures(String what, List<String> before, List<String> behind) {
        same(what + ": how much the book tells behind it", behind.size(), before.size());
        for (int i = 0; i < Math.min(before.size(), behind.size()); i++) {
            if (!before.get(i).equals(behind.get(i))) {
                same(what + ": answer " + i + " of the book behind it", behind.get(i), before.get(i));
                return;
            }
        }
    }

    static String outcome(CueBook book, Call call) {
        try {
            return String.valueOf(call.on(book));
        } catch (RuntimeException e) {
            return (isThrownByTheBook(e) ? "throws." : "the machine throws ") + e.getClass().getSimpleName();
        }
    }

    /** An exception of the library or the machine is wrong even if its name is the one that is due. */
    private static boolean isThrownByTheBook(RuntimeException e) {
        StackTraceElement[] trace = e.getStackTrace();
        return trace.length > 0 && trace[0].getClassName().startsWith("CueBook");
    }

    /** All that a book tells, asked of as many new books as it takes. */
    static List<String> picture(Scene scene) {
        CueBook first = new CueBook();
        scene.set(first);
        List<Call> questions = questions(first);
        List<String> told = new ArrayList<>();
        CueBook book = first;
        for (int i = 0; i < questions.size(); i++) {
            if (i % CALLS_OF_A_BOOK == 0) {
                book = new CueBook();
                scene.set(book);
            }
            told.add(outcome(book, questions.get(i)));
        }
        CueBook changed = new CueBook();
        scene.set(changed);
        for (Call change : changes(first)) {
            told.add(outcome(changed, change));
            told.add(outcome(changed, CueBook::digest));
        }
        return told;
    }

    /** What is kept inside and not told at once comes to light when more is written and struck out. */
    private static List<Call> changes(CueBook book) {
        List<Call> list = new ArrayList<>();
        for (int i = 0; i < book.count(0); i++) {
            final int p = i;
            list.add(b -> b.shift(p, 999, 3));
        }
        for (int i = book.count(2) - 1; i >= 0; i--) {
            final int cue = i;
            list.add(b -> b.note(cue, 1));
            list.add(b -> b.strike(cue));
        }
        list.add(b -> b.addPuppet(1, 1));
        list.add(b -> b.addPlayer(1, 1));
        return list;
    }

    private static List<Call> questions(CueBook book) {
        int puppets = book.count(0);
        int players = book.count(1);
        int cues = book.count(2);
        List<Call> list = new ArrayList<>();
        for (int what = 0; what < 4; what++) {
            final int w = what;
            list.add(b -> b.count(w));
        }
        list.add(CueBook::digest);
        list.add(CueBook::worst);
        list.add(CueBook::uncast);
        list.add(CueBook::clashes);
        for (int c = 0; c < cues; c++) {
            final int cue = c;
            list.add(b -> b.mean(cue));
            for (int what = 0; what < 5; what++) {
                final int w = what;
                list.add(b -> b.cue(cue, w));
            }
        }
        for (int i = 0; i < puppets; i++) {
            final int p = i;
            list.add(b -> b.beats(p));
            list.add(b -> b.stays(p));
            for (int k = 0; k < puppets; k++) {
                final int q = k;
                list.add(b -> b.clash(p, q));
            }
        }
        for (int i = 0; i < players; i++) {
            final int p = i;
            list.add(b -> b.load(p));
        }
        for (int beat : someBeats()) {
            list.add(b -> b.onStage(beat));
            for (int i = 0; i < puppets; i++) {
                final int p = i;
                list.add(b -> b.place(p, beat));
                list.add(b -> b.track(p, beat));
            }
            for (int i = 0; i < players; i++) {
                final int p = i;
                list.add(b -> b.hands(p, beat));
            }
        }
        return list;
    }

    /** All beats that the scenes work with, and some of the long rest. */
    private static List<Integer> someBeats() {
        List<Integer> beats = new ArrayList<>();
        for (int beat = 0; beat < 1000; beat += beat < 130 || beat >= 970 ? 1 : 20) {
            beats.add(beat);
        }
        return beats;
    }

    void report(String name) {
        System.out.println(name + ": " + made + " checks, " + wrong + " wrong");
        if (wrong != 0 || made == 0) {
            System.exit(1);
        }
    }
}
