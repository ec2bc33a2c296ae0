/** Promises 11 to 16: the stage. */
final class StageTest {
    private static final int[] NO_PUPPETS = Checks.outside(0, 2);
    private static final int[] NO_PUPPETS_OF_FULL = Checks.outside(0, 7);
    private static final int[] NO_BEATS = Checks.outside(0, 999);

    /** Three puppets; 0 walks from 9 to 6 and out, and comes in again, 1 is there from 999 on. */
    private static final Checks.Scene SCENE = b -> {
        b.addPuppet(1, 1);
        b.addPuppet(1, 1);
        b.addPuppet(1, 1);
        b.enter(0, 3, 9, 2);
        b.move(0, 5, 6);
        b.leave(0, 8);
        b.enter(0, 10, 0, 1);
        b.shift(0, 12, 3);
        b.enter(1, 999, 19, 0);
    };

    private static final Checks.Scene ALWAYS_THERE = Scenes.ONE_PUPPET.then(b -> b.enter(0, 0, 0, 0));

    private final Checks checks = new Checks();
    private final Document doc = new Document(checks);

    public static void main(String[] args) {
        StageTest test = new StageTest();
        test.place();
        test.track();
        test.onStage();
        test.clash();
        test.clashRefused();
        test.clashes();
        test.beats();
        test.doc.end();
        test.checks.report("StageTest");
    }

    private void row(String what, int from, int[] due, Checks.CallWith call) {
        for (int i = 0; i < due.length; i++) {
            int beat = from + i;
            checks.answers(SCENE, what + " at beat " + beat, b -> call.on(b, beat), due[i]);
        }
    }

    private void place() {
        doc.section("Promise 11: place");
        doc.says("- `puppet`: a puppet");
        checks.answersEach(Scenes.FULL, "of the full book: place(#, 999)", new int[] {0, 7},
                (b, x) -> b.place(x, 999), 9);
        checks.answers(Scenes.FULL, "of the full book: place(7, 700)", b -> b.place(7, 700), 14);
        doc.says("- `beat`: a beat");
        checks.answersEach(ALWAYS_THERE, "place(0, #)", new int[] {0, 1, 998, 999}, (b, x) -> b.place(0, x), 0);
        doc.says("Returns its place at this beat");
        row("place(0)", 3, new int[] {9, 9, 9, 8, 7}, (b, t) -> b.place(0, t));
        row("place(0)", 10, new int[] {0, 0, 0, 0}, (b, t) -> b.place(0, t));
        row("place(0)", 998, new int[] {0, 0}, (b, t) -> b.place(0, t));
        row("place(1)", 999, new int[] {19}, (b, t) -> b.place(1, t));
        doc.says("; -1 if it is not on stage.");
        row("place(0)", 0, new int[] {-1, -1, -1, 9}, (b, t) -> b.place(0, t));
        row("place(0)", 7, new int[] {7, -1, -1, 0}, (b, t) -> b.place(0, t));
        row("place(1)", 998, new int[] {-1, 19}, (b, t) -> b.place(1, t));
        checks.answersEach(SCENE, "never: place(2, #)", new int[] {0, 500, 999}, (b, x) -> b.place(2, x), -1);
        checks.answersEach(ALWAYS_THERE.then(b -> b.strike(0)), "its ENTER struck out: place(0, #)",
                new int[] {0, 500, 999}, (b, x) -> b.place(0, x), -1);
        refused("place", (b, p, t) -> b.place(p, t));
    }

    private void track() {
        doc.section("Promise 12: track");
        doc.says("- `puppet`: a puppet");
        checks.answersEach(Scenes.FULL, "of the full book: track(#, 999) - # % 4", new int[] {0, 3, 7},
                (b, x) -> b.track(x, 999) - x % 4, 0);
        doc.says("- `beat`: a beat");
        checks.answersEach(ALWAYS_THERE, "track(0, #)", new int[] {0, 1, 998, 999}, (b, x) -> b.track(0, x), 0);
        doc.says("Returns its track at this beat");
        row("track(0)", 3, new int[] {2, 2, 2, 2, 2}, (b, t) -> b.track(0, t));
        row("track(0)", 10, new int[] {1, 1, 3, 3}, (b, t) -> b.track(0, t));
        row("track(0)", 998, new int[] {3, 3}, (b, t) -> b.track(0, t));
        row("track(1)", 999, new int[] {0}, (b, t) -> b.track(1, t));
        doc.says("; -1 if it is not on stage.");
        row("track(0)", 0, new int[] {-1, -1, -1, 2}, (b, t) -> b.track(0, t));
        row("track(0)", 7, new int[] {2, -1, -1, 1}, (b, t) -> b.track(0, t));
        row("track(1)", 998, new int[] {-1, 0}, (b, t) -> b.track(1, t));
        checks.answersEach(SCENE, "never: track(2, #)", new int[] {0, 500, 999}, (b, x) -> b.track(2, x), -1);
        checks.answersEach(ALWAYS_THERE.then(b -> b.strike(0)), "its ENTER struck out: track(0, #)",
                new int[] {0, 500, 999}, (b, x) -> b.track(0, x), -1);
        refused("track", (b, p, t) -> b.track(p, t));
    }

    interface PuppetCall {
        int at(CueBook book, int puppet, int beat);
    }

    private void refused(String name, PuppetCall call) {
        doc.says("Throws `IndexOutOfBoundsException` if there is no such puppet");
        checks.refusesEach(SCENE, name + "(#, 0)", NO_PUPPETS, (b, x) -> call.at(b, x, 0), Checks.INDEX);
        checks.refusesEach(SCENE, name + "(#, -1)", NO_PUPPETS, (b, x) -> call.at(b, x, -1), Checks.INDEX);
        checks.refusesEach(Scenes.FULL, name + "(#, 0)", NO_PUPPETS_OF_FULL,
                (b, x) -> call.at(b, x, 0), Checks.INDEX);
        checks.refuses(Scenes.EMPTY, name + "(0, 0)", b -> call.at(b, 0, 0), Checks.INDEX);
        doc.says("Throws `IllegalArgumentException` if beat is not 0 to 999");
        checks.refusesEach(SCENE, name + "(0, #)", NO_BEATS, (b, x) -> call.at(b, 0, x), Checks.ARGUMENT);
    }

    private void onStage() {
        doc.section("Promise 13: onStage");
        doc.says("- `beat`: a beat");
        checks.answersEach(ALWAYS_THERE, "onStage(#)", new int[] {0, 1, 998, 999}, CueBook::onStage, 1);
        doc.says("Returns the set of the puppets on stage (as the sum of the powers 2^k of their numbers k).");
        row("onStage", 0, new int[] {0, 0, 0, 1, 1, 1, 1, 1, 0, 0, 1, 1, 1}, CueBook::onStage);
        row("onStage", 998, new int[] {1, 3}, CueBook::onStage);
        Checks.Scene oneByOne = b -> {
            for (int i = 0; i < 8; i++) {
                b.addPuppet(1, 1);
                b.enter(i, i + 1, 0, 0);
            }
        };
        for (int beat = 0; beat <= 9; beat++) {
            int t = beat;
            checks.answers(oneByOne, "onStage(" + t + ")", b -> b.onStage(t), (1 << Math.min(t, 8)) - 1);
        }
        checks.answers(Scenes.FULL, "of the full book, all: onStage(999)", b -> b.onStage(999), 255);
        checks.answers(Scenes.FULL, "of the full book, none: onStage(65)", b -> b.onStage(65), 0);
        checks.answers(Scenes.FULL, "of the full book, all but the last: onStage(765)", b -> b.onStage(765), 127);
        checks.answers(Scenes.EIGHT_PUPPETS.then(b -> b.enter(7, 0, 0, 0)), "the last one alone: onStage(0)",
                b -> b.onStage(0), 128);
        checks.answersEach(Scenes.EMPTY, "of the empty book: onStage(#)", new int[] {0, 999}, CueBook::onStage, 0);
        checks.answersEach(Scenes.EIGHT_PUPPETS, "nobody has come: onStage(#)", new int[] {0, 999},
                CueBook::onStage, 0);
        doc.says("Throws `IllegalArgumentException` if beat is not 0 to 999");
        checks.refusesEach(SCENE, "onStage(#)", NO_BEATS, CueBook::onStage, Checks.ARGUMENT);
        checks.refusesEach(Scenes.EMPTY, "of the empty book: onStage(#)", NO_BEATS, CueBook::onStage,
                Checks.ARGUMENT);
    }

    private void clash(String what, Checks.Scene scene, int due) {
        checks.answers(scene, what + ": clash(0, 1)", b -> b.clash(0, 1), due);
        checks.answers(scene, what + ": clash(1, 0)", b -> b.clash(1, 0), due);
        checks.answers(scene, what + ": clashes()", CueBook::clashes, due < 0 ? 0 : 1);
    }

    private void clash() {
        doc.section("Promise 14: clash");
        doc.says("- `a`: a puppet");
        int[][] ofFull = {{0, 1, 170}, {0, 4, 411}, {0, 7, 770}, {1, 2, -1}, {1, 5, 511}, {4, 7, 770}, {6, 7, -1}};
        for (int[] row : ofFull) {
            checks.answers(Scenes.FULL, "of the full book: clash(" + row[0] + ", " + row[1] + ")",
                    b -> b.clash(row[0], row[1]), row[2]);
        }
        doc.says("- `b`: a puppet");
        for (int[] row : ofFull) {
            checks.answers(Scenes.FULL, "of the full book: clash(" + row[1] + ", " + row[0] + ")",
                    b -> b.clash(row[1], row[0]), row[2]);
        }
        doc.says("Returns the first beat at which they are in each other's way");
        clash("at beat 0", b -> {
            b.addPuppet(1, 1);
            b.addPuppet(1, 1);
            b.enter(0, 0, 0, 0);
            b.enter(1, 0, 0, 0);
        }, 0);
        clash("at beat 999", Scenes.pair(4, 5).then(b -> b.move(0, 998, 5)), 999);
        clash("twice", Scenes.pair(4, 5).then(b -> {
            b.move(0, 20, 5);
            b.move(0, 30, 4);
            b.move(0, 40, 5);
        }), 21);
        clash("ahead of a crossing", Scenes.pair(4, 4).then(b -> {
            b.move(0, 20, 5);
            b.move(0, 30, 4);
            b.move(1, 30, 5);
        }), 10);
        doc.says(", or at which they are crossing (the first one of the two beats)");
        clash("at beats 0 and 1", b -> {
            b.addPuppet(1, 1);
            b.addPuppet(1, 1);
            b.enter(0, 0, 0, 0);
            b.enter(1, 0, 1, 0);
            b.move(0, 0, 1);
            b.move(1, 0, 0);
        }, 0);
        clash("at beats 998 and 999", Scenes.pair(4, 5).then(b -> {
            b.move(0, 998, 5);
            b.move(1, 998, 4);
        }), 998);
        clash("ahead of another one", Scenes.pair(4, 5).then(b -> {
            b.move(0, 20, 5);
            b.move(1, 20, 4);
            b.move(0, 30, 4);
            b.move(1, 30, 5);
        }), 20);
        clash("ahead of being in each other's way", Scenes.pair(4, 5).then(b -> {
            b.move(0, 20, 5);
            b.move(1, 20, 4);
            b.move(0, 30, 4);
        }), 20);
        doc.says("; -1 if there is none.");
        clash("side by side", Scenes.pair(4, 5), -1);
        clash("side by side to the end", Scenes.pair(4, 5).then(b -> b.move(0, 999, 4)), -1);
        clash("one behind the other", Scenes.pair(4, 4).then(b -> b.shift(1, 10, 0)), -1);
        clash("no cues", b -> {
            b.addPuppet(1, 1);
            b.addPuppet(1, 1);
        }, -1);
        clash("the one that was in the way struck out", Scenes.pair(4, 4).then(b -> b.strike(1)), -1);
    }

    private void clashRefused() {
        doc.says("Throws `IndexOutOfBoundsException` if there is no such puppet");
        checks.refusesEach(SCENE, "clash(0, #)", NO_PUPPETS, (b, x) -> b.clash(0, x), Checks.INDEX);
        checks.refusesEach(SCENE, "clash(#, 0)", NO_PUPPETS, (b, x) -> b.clash(x, 0), Checks.INDEX);
        checks.refusesEach(SCENE, "clash(#, #)", NO_PUPPETS, (b, x) -> b.clash(x, x), Checks.INDEX);
        checks.refusesEach(Scenes.FULL, "clash(7, #)", NO_PUPPETS_OF_FULL, (b, x) -> b.clash(7, x), Checks.INDEX);
        checks.refusesEach(Scenes.FULL, "clash(#, 7)", NO_PUPPETS_OF_FULL, (b, x) -> b.clash(x, 7), Checks.INDEX);
        doc.says("Throws `IllegalArgumentException` if they are the same");
        checks.refusesEach(SCENE, "clash(#, #)", new int[] {0, 1, 2}, (b, x) -> b.clash(x, x), Checks.ARGUMENT);
        checks.refusesEach(Scenes.FULL, "clash(#, #)", new int[] {0, 7}, (b, x) -> b.clash(x, x), Checks.ARGUMENT);
    }

    private void clashes() {
        doc.section("Promise 15: clashes");
        doc.says("Returns the number of pairs of puppets that clash.");
        checks.answers(Scenes.EMPTY, "of the empty book", CueBook::clashes, 0);
        checks.answers(Scenes.EIGHT_PUPPETS, "nobody has come", CueBook::clashes, 0);
        checks.answers(Scenes.FULL, "of the full book", CueBook::clashes, 13);
        checks.answers(b -> {
            for (int i = 0; i < 8; i++) {
                b.addPuppet(1, 1);
                b.enter(i, 5, 7, 2);
            }
        }, "all pairs of 8", CueBook::clashes, 28);
        Checks.Scene three = Scenes.pair(4, 4).then(b -> b.enter(2, 10, 6, 1));
        checks.answers(three, "one pair", CueBook::clashes, 1);
        checks.answers(three.then(b -> {
            b.clashes();
            b.move(2, 20, 4);
        }), "a MOVE more, asked for the second time", CueBook::clashes, 3);
        checks.answers(three.then(b -> {
            b.move(2, 20, 4);
            b.clashes();
            b.strike(3);
        }), "a cue struck out, asked for the second time", CueBook::clashes, 1);
        checks.answers(Scenes.pair(4, 4).then(b -> {
            b.clashes();
            b.strike(0);
        }), "no clash is left", CueBook::clashes, 0);
        checks.answers(three.then(b -> {
            b.clashes();
            b.addPuppet(1, 1);
        }), "a puppet more", CueBook::clashes, 1);
    }

    private void beats() {
        doc.section("Promise 16: beats");
        doc.says("- `puppet`: a puppet");
        for (int puppet = 0; puppet < 8; puppet++) {
            int p = puppet;
            checks.answers(Scenes.FULL, "of the full book: beats(" + p + ")", b -> b.beats(p), 990 - 100 * p);
        }
        doc.says("Returns on how many beats it is on stage.");
        checks.answers(SCENE, "two stays: beats(0)", b -> b.beats(0), 5 + 990);
        checks.answers(SCENE, "the last beat: beats(1)", b -> b.beats(1), 1);
        checks.answers(SCENE, "never: beats(2)", b -> b.beats(2), 0);
        checks.answers(ALWAYS_THERE, "all the time: beats(0)", b -> b.beats(0), 1000);
        checks.answers(ALWAYS_THERE.then(b -> b.leave(0, 1)), "the first beat: beats(0)", b -> b.beats(0), 1);
        checks.answers(ALWAYS_THERE.then(b -> {
            b.leave(0, 500);
            b.enter(0, 500, 9, 0);
        }), "out and in at once: beats(0)", b -> b.beats(0), 1000);
        checks.answers(ALWAYS_THERE.then(b -> b.strike(0)), "its ENTER struck out: beats(0)", b -> b.beats(0), 0);
        doc.says("Throws `IndexOutOfBoundsException` if there is no such puppet");
        checks.refusesEach(SCENE, "beats(#)", NO_PUPPETS, CueBook::beats, Checks.INDEX);
        checks.refusesEach(Scenes.FULL, "beats(#)", NO_PUPPETS_OF_FULL, CueBook::beats, Checks.INDEX);
        checks.refuses(Scenes.EMPTY, "beats(0)", b -> b.beats(0), Checks.INDEX);
    }
}
