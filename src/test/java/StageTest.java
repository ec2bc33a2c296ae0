/** Promises 11 to 16: the stage. */
final class StageTest {
    private static final Class<IndexOutOfBoundsException> INDEX = IndexOutOfBoundsException.class;
    private static final Class<IllegalArgumentException> ARGUMENT = IllegalArgumentException.class;

    private static final int[] NO_PUPPETS = {-1, 3, Integer.MIN_VALUE, Integer.MAX_VALUE};
    private static final int[] NO_BEATS = {-1, 1000, Integer.MIN_VALUE, Integer.MAX_VALUE};

    private final Checks checks = new Checks();

    public static void main(String[] args) {
        StageTest test = new StageTest();
        test.place();
        test.track();
        test.onStage();
        test.clashInTheWay();
        test.clashCrossing();
        test.clashAtTheEnd();
        test.clashRefused();
        test.clashes();
        test.beats();
        test.checks.report("StageTest");
    }

    /** Three puppets; 0 walks from 9 to 6 and out, and comes in again, 1 is there from 999 on. */
    private static void scene(CueBook b) {
        b.addPuppet(1, 1);
        b.addPuppet(1, 1);
        b.addPuppet(1, 1);
        b.enter(0, 3, 9, 2);
        b.move(0, 5, 6);
        b.leave(0, 8);
        b.enter(0, 10, 0, 1);
        b.shift(0, 12, 3);
        b.enter(1, 999, 19, 0);
    }

    private void row(String what, int from, int[] due, PlaceOrTrack call) {
        for (int i = 0; i < due.length; i++) {
            int beat = from + i;
            checks.answers(StageTest::scene, what + " at beat " + beat, b -> call.at(b, beat), due[i]);
        }
    }

    interface PlaceOrTrack {
        int at(CueBook book, int beat);
    }

    private void place() {
        checks.part("promise 11");
        row("place(0)", 0, new int[] {-1, -1, -1, 9, 9, 9, 8, 7, -1, -1, 0, 0, 0, 0}, (b, t) -> b.place(0, t));
        row("place(0)", 998, new int[] {0, 0}, (b, t) -> b.place(0, t));
        row("place(1)", 998, new int[] {-1, 19}, (b, t) -> b.place(1, t));
        row("place(2)", 998, new int[] {-1, -1}, (b, t) -> b.place(2, t));
        checks.answers(b -> {
            b.addPuppet(1, 1);
            b.enter(0, 0, 0, 0);
            b.strike(0);
        }, "its ENTER at beat 0 struck out: place(0, 0)", b -> b.place(0, 0), -1);
        refused("place", (b, p, t) -> b.place(p, t));
    }

    private void track() {
        checks.part("promise 12");
        row("track(0)", 0, new int[] {-1, -1, -1, 2, 2, 2, 2, 2, -1, -1, 1, 1, 3, 3}, (b, t) -> b.track(0, t));
        row("track(0)", 998, new int[] {3, 3}, (b, t) -> b.track(0, t));
        row("track(1)", 998, new int[] {-1, 0}, (b, t) -> b.track(1, t));
        row("track(2)", 998, new int[] {-1, -1}, (b, t) -> b.track(2, t));
        refused("track", (b, p, t) -> b.track(p, t));
    }

    interface PuppetCall {
        int at(CueBook book, int puppet, int beat);
    }

    private void refused(String name, PuppetCall call) {
        for (int wrong : NO_PUPPETS) {
            checks.refuses(StageTest::scene, name + "(" + wrong + ", 0)", b -> call.at(b, wrong, 0), INDEX);
            checks.refuses(StageTest::scene, name + "(" + wrong + ", -1)", b -> call.at(b, wrong, -1), INDEX);
        }
        for (int wrong : NO_BEATS) {
            checks.refuses(StageTest::scene, name + "(0, " + wrong + ")", b -> call.at(b, 0, wrong), ARGUMENT);
        }
    }

    private void onStage() {
        checks.part("promise 13");
        row("onStage", 0, new int[] {0, 0, 0, 1, 1, 1, 1, 1, 0, 0, 1, 1, 1}, CueBook::onStage);
        row("onStage", 998, new int[] {1, 3}, CueBook::onStage);
        Checks.Scene all = b -> {
            for (int i = 0; i < 8; i++) {
                b.addPuppet(1, 1);
                b.enter(i, i, 0, 0);
            }
        };
        checks.answers(all, "onStage(5)", b -> b.onStage(5), 63);
        checks.answers(all, "onStage(7)", b -> b.onStage(7), 255);
        for (int wrong : NO_BEATS) {
            checks.refuses(StageTest::scene, "onStage(" + wrong + ")", b -> b.onStage(wrong), ARGUMENT);
        }
    }

    /** Two puppets that come in at beat 10 at places a and b, both on track 1. */
    private static Checks.Scene pair(int a, int b) {
        return book -> {
            book.addPuppet(1, 1);
            book.addPuppet(1, 1);
            book.addPuppet(1, 1);
            book.enter(0, 10, a, 1);
            book.enter(1, 10, b, 1);
        };
    }

    private void clash(String what, Checks.Scene start, Checks.Scene more, int due) {
        Checks.Scene whole = b -> {
            start.set(b);
            more.set(b);
        };
        checks.answers(whole, what + ": clash(0, 1)", b -> b.clash(0, 1), due);
        checks.answers(whole, what + ": clash(1, 0)", b -> b.clash(1, 0), due);
        checks.answers(whole, what + ": clashes()", CueBook::clashes, due < 0 ? 0 : 1);
    }

    private void clashInTheWay() {
        checks.part("promise 14, in each other's way");
        clash("at once", pair(4, 4), b -> { }, 10);
        clash("never", pair(4, 5), b -> { }, -1);
        clash("one walks to the other", pair(4, 6), b -> b.move(0, 20, 9), 22);
        clash("another track", pair(4, 4), b -> b.shift(0, 10, 2), -1);
        clash("until it comes to the same track", pair(4, 4), b -> {
            b.shift(0, 10, 2);
            b.shift(1, 30, 2);
        }, 30);
        clash("it leaves at the beat at which the other comes", pair(4, 5), b -> {
            b.leave(0, 20);
            b.move(1, 19, 4);
        }, -1);
        clash("it leaves a beat later", pair(4, 5), b -> {
            b.leave(0, 21);
            b.move(1, 19, 4);
        }, 20);
        clash("they walk together", pair(4, 5), b -> {
            b.move(0, 20, 10);
            b.move(1, 20, 11);
        }, -1);
        clash("only one on stage", b -> {
            b.addPuppet(1, 1);
            b.addPuppet(1, 1);
            b.enter(0, 0, 0, 0);
        }, b -> { }, -1);
    }

    private void clashCrossing() {
        checks.part("promise 14, crossing");
        clash("they exchange neighbouring places", pair(4, 5), b -> {
            b.move(0, 20, 5);
            b.move(1, 20, 4);
        }, 20);
        clash("an odd distance", pair(4, 9), b -> {
            b.move(0, 20, 9);
            b.move(1, 20, 4);
        }, 22);
        clash("an even distance", pair(4, 8), b -> {
            b.move(0, 20, 8);
            b.move(1, 20, 4);
        }, 22);
        clash("both change the track in between", pair(4, 5), b -> {
            b.move(0, 20, 5);
            b.move(1, 20, 4);
            b.shift(0, 21, 3);
            b.shift(1, 21, 3);
        }, 20);
        clash("one changes the track in between", pair(4, 5), b -> {
            b.move(0, 20, 5);
            b.move(1, 20, 4);
            b.shift(0, 21, 3);
        }, -1);
        clash("one comes to the track in between", pair(4, 5), b -> {
            b.shift(0, 15, 0);
            b.move(0, 20, 5);
            b.move(1, 20, 4);
            b.shift(0, 21, 1);
        }, -1);
        clash("one goes where the other was, which goes on", pair(4, 5), b -> {
            b.move(0, 20, 5);
            b.move(1, 20, 6);
        }, -1);
        clash("one is out at the second beat", pair(4, 5), b -> {
            b.move(0, 20, 5);
            b.leave(1, 21);
        }, -1);
        clash("out and in, at places that are exchanged", pair(4, 12), b -> {
            b.leave(0, 20);
            b.leave(1, 20);
            b.enter(0, 20, 12, 0);
            b.enter(1, 20, 4, 0);
        }, 19);
    }

    private void clashAtTheEnd() {
        checks.part("promise 14, at the first and the last beat");
        clash("at beat 0", b -> {
            b.addPuppet(1, 1);
            b.addPuppet(1, 1);
            b.enter(0, 0, 0, 0);
            b.enter(1, 0, 0, 0);
        }, b -> { }, 0);
        clash("crossing at beats 0 and 1", b -> {
            b.addPuppet(1, 1);
            b.addPuppet(1, 1);
            b.enter(0, 0, 0, 0);
            b.enter(1, 0, 1, 0);
            b.move(0, 0, 1);
            b.move(1, 0, 0);
        }, b -> { }, 0);
        clash("at beat 999", pair(4, 5), b -> b.move(0, 998, 5), 999);
        clash("crossing at beats 998 and 999", pair(4, 5), b -> {
            b.move(0, 998, 5);
            b.move(1, 998, 4);
        }, 998);
        clash("side by side to the end", pair(4, 5), b -> b.move(0, 999, 4), -1);
    }

    private void clashRefused() {
        checks.part("promise 14, refused");
        for (int wrong : NO_PUPPETS) {
            checks.refuses(StageTest::scene, "clash(0, " + wrong + ")", b -> b.clash(0, wrong), INDEX);
            checks.refuses(StageTest::scene, "clash(" + wrong + ", 0)", b -> b.clash(wrong, 0), INDEX);
            checks.refuses(StageTest::scene, "clash(" + wrong + ", " + wrong + ")",
                    b -> b.clash(wrong, wrong), INDEX);
        }
        for (int same = 0; same < 3; same++) {
            int p = same;
            checks.refuses(StageTest::scene, "clash(" + p + ", " + p + ")", b -> b.clash(p, p), ARGUMENT);
        }
    }

    private void clashes() {
        checks.part("promise 15");
        checks.answers(b -> {
            for (int i = 0; i < 8; i++) {
                b.addPuppet(1, 1);
                b.enter(i, 5, 7, 2);
            }
        }, "all pairs of 8", CueBook::clashes, 28);
        Checks.Scene three = b -> {
            pair(4, 4).set(b);
            b.enter(2, 10, 6, 1);
        };
        checks.answers(three, "one pair", CueBook::clashes, 1);
        checks.answers(b -> {
            three.set(b);
            b.clashes();
            b.move(2, 20, 4);
        }, "a MOVE more, asked for the second time", CueBook::clashes, 3);
        checks.answers(b -> {
            three.set(b);
            b.move(2, 20, 4);
            b.clashes();
            b.strike(3);
        }, "a cue struck out, asked for the second time", CueBook::clashes, 1);
        checks.answers(b -> {
            pair(4, 4).set(b);
            b.clashes();
            b.strike(0);
        }, "no clash is left", CueBook::clashes, 0);
    }

    private void beats() {
        checks.part("promise 16");
        checks.answers(StageTest::scene, "two stays: beats(0)", b -> b.beats(0), 5 + 990);
        checks.answers(StageTest::scene, "the last beat: beats(1)", b -> b.beats(1), 1);
        checks.answers(StageTest::scene, "never: beats(2)", b -> b.beats(2), 0);
        checks.answers(b -> {
            b.addPuppet(1, 1);
            b.enter(0, 0, 0, 0);
        }, "all the time: beats(0)", b -> b.beats(0), 1000);
        for (int wrong : NO_PUPPETS) {
            checks.refuses(StageTest::scene, "beats(" + wrong + ")", b -> b.beats(wrong), INDEX);
        }
    }
}
