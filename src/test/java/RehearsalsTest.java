/** Promises 22 to 25: rehearsals. */
final class RehearsalsTest {
    private static final Class<IndexOutOfBoundsException> INDEX = IndexOutOfBoundsException.class;
    private static final Class<IllegalArgumentException> ARGUMENT = IllegalArgumentException.class;
    private static final Class<IllegalStateException> STATE = IllegalStateException.class;

    private static final int[] NO_CUES = {-1, 2, 4, Integer.MIN_VALUE, Integer.MAX_VALUE};

    private final Checks checks = new Checks();

    public static void main(String[] args) {
        RehearsalsTest test = new RehearsalsTest();
        test.note();
        test.mean();
        test.worst();
        test.digest();
        test.checks.report("RehearsalsTest");
    }

    /** Cues 0, 1 and 3; cue 2 was struck out. */
    private static void scene(CueBook b) {
        b.addPuppet(2, 1);
        b.addPuppet(2, 1);
        b.addPlayer(3, 4);
        b.enter(0, 10, 5, 1);
        b.move(0, 20, 7);
        b.shift(0, 30, 2);
        b.enter(1, 21, 7, 1);
        b.strike(2);
    }

    private static void note(CueBook b, int cue, int... late) {
        for (int l : late) {
            b.note(cue, l);
        }
    }

    private static void noteTwenty(CueBook b) {
        scene(b);
        for (int i = 0; i < 20; i++) {
            b.note(1, i);
        }
    }

    private void note() {
        checks.part("promise 22");
        CueBook book = new CueBook();
        scene(book);
        for (int i = 1; i <= 20; i++) {
            checks.same("note(0, 50)", book.note(0, 50), i);
        }
        checks.same("of another cue: note(1, -50)", book.note(1, -50), 1);
        checks.same("mean(0)", book.mean(0), 50.0);
        checks.refuses(RehearsalsTest::noteTwenty, "for the 21st time: note(1, 0)", b -> b.note(1, 0), STATE);
        checks.refuses(RehearsalsTest::noteTwenty, "and too late: note(1, 51)", b -> b.note(1, 51), ARGUMENT);
        checks.answers(RehearsalsTest::noteTwenty, "of another cue: note(0, 0)", b -> b.note(0, 0), 1);
        for (int wrong : new int[] {-51, 51, Integer.MIN_VALUE, Integer.MAX_VALUE}) {
            checks.refuses(RehearsalsTest::scene, "note(0, " + wrong + ")", b -> b.note(0, wrong), ARGUMENT);
        }
        for (int wrong : NO_CUES) {
            checks.refuses(RehearsalsTest::scene, "note(" + wrong + ", 51)", b -> b.note(wrong, 51), INDEX);
        }
        checks.refuses(b -> {
            noteTwenty(b);
            b.strike(1);
        }, "struck out: note(1, 0)", b -> b.note(1, 0), INDEX);
    }

    private void mean() {
        checks.part("promise 23");
        checks.answers(RehearsalsTest::scene, "nothing noted: mean(0)", b -> b.mean(0), 0.0);
        Object[][] due = {{new int[] {3, -4}, -0.5}, {new int[] {1, 0, 0}, 1.0 / 3.0}, {new int[] {-7}, -7.0},
            {new int[] {5, -5}, 0.0}, {new int[] {50, 49, 50}, 149.0 / 3.0}, {new int[] {0}, 0.0}};
        for (Object[] row : due) {
            int[] late = (int[]) row[0];
            checks.answers(b -> {
                scene(b);
                note(b, 1, late);
                b.note(0, 13);
            }, "mean(1)", b -> b.mean(1), row[1]);
        }
        for (int wrong : NO_CUES) {
            checks.refuses(RehearsalsTest::scene, "mean(" + wrong + ")", b -> b.mean(wrong), INDEX);
        }
    }

    private void worst(String what, Checks.Scene notes, int due) {
        checks.answers(b -> {
            scene(b);
            notes.set(b);
        }, what + ": worst()", CueBook::worst, due);
    }

    private void worst() {
        checks.part("promise 24");
        worst("nothing noted", b -> { }, -1);
        worst("noted to be in time", b -> note(b, 3, 0), 3);
        worst("the first one", b -> {
            note(b, 0, -5);
            note(b, 1, 4);
        }, 0);
        worst("two in time", b -> {
            note(b, 3, 0);
            note(b, 1, 0, 0);
        }, 1);
        worst("each by itself", b -> {
            note(b, 0, 10);
            note(b, 1, 6, -6);
        }, 1);
        worst("early is as bad as late", b -> {
            note(b, 0, 10);
            note(b, 3, -11);
        }, 3);
        worst("the sum, not the mean", b -> {
            note(b, 0, 10);
            note(b, 3, 4, 4, 4);
        }, 3);
        worst("the same sum", b -> {
            note(b, 3, -12);
            note(b, 1, 4, 4, 4);
        }, 1);
        worst("the worst one struck out", b -> {
            note(b, 3, 50);
            note(b, 1, 1);
            b.strike(3);
        }, 1);
        worst("the only one struck out", b -> {
            note(b, 3, 50);
            b.strike(3);
        }, -1);
    }

    private static long digestOf(int... numbers) {
        long d = 277;
        for (int x : numbers) {
            d = d * 31 + x;
        }
        return d;
    }

    private void digest() {
        checks.part("promise 25");
        checks.answers(b -> { }, "of a new book", CueBook::digest, digestOf(0, 0, 0, 0));
        Checks.Scene noted = b -> {
            scene(b);
            note(b, 0, 3, -3, 0);
            note(b, 3, 7);
        };
        checks.answers(noted, "of the scene", CueBook::digest, digestOf(
                2, 1, 10, 1000, 0, 1, 21, 1000, -1,
                1, 990,
                4, 0, 0, 10, 5, 1, 3, 1, 0, 20, 7, -1, 0, 0, 1, 21, 7, 1, 1,
                1));
        checks.answers(b -> {
            noted.set(b);
            b.digest();
            b.addPlayer(20, 19);
            b.leave(0, 22);
            b.enter(0, 22, 0, 0);
            b.strike(3);
        }, "of a changed scene", CueBook::digest, digestOf(
                2, 2, 10, 22, 0, 22, 1000, 1, 0,
                2, 12, 978,
                6, 0, 0, 10, 5, 1, 3, 1, 0, 20, 7, -1, 0, 3, 0, 22, -1, -1, 0, 0, 0, 22, 0, 0, 0,
                0));
    }
}
