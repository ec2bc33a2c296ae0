/** Promises 1 to 10: puppets, players and cues. */
final class PuppetsPlayersCuesTest {
    private static final Class<IndexOutOfBoundsException> INDEX = IndexOutOfBoundsException.class;
    private static final Class<IllegalArgumentException> ARGUMENT = IllegalArgumentException.class;
    private static final Class<IllegalStateException> STATE = IllegalStateException.class;

    private static final int[] FAR = {Integer.MIN_VALUE, Integer.MAX_VALUE};

    private final Checks checks = new Checks();

    public static void main(String[] args) {
        PuppetsPlayersCuesTest test = new PuppetsPlayersCuesTest();
        test.newObject();
        test.addPuppet();
        test.addPlayer();
        test.enter();
        test.move();
        test.moveEnds();
        test.shift();
        test.leave();
        test.cuesOfOneBeat();
        test.cuesBehind();
        test.fullBook();
        test.strike();
        test.strikeRefused();
        test.count();
        test.cue();
        test.checks.report("PuppetsPlayersCuesTest");
    }

    private static void empty(CueBook b) {
    }

    /** A puppet that comes in at beat 10, at place 5, walks to place 9 from 12 to 16, leaves at 30. */
    private static void walk(CueBook b) {
        b.addPuppet(3, 1);
        b.addPuppet(3, 1);
        b.addPlayer(9, 5);
        b.enter(0, 10, 5, 1);
        b.move(0, 12, 9);
        b.leave(0, 30);
    }

    private static void eightPuppets(CueBook b) {
        for (int i = 0; i < 8; i++) {
            b.addPuppet(9, 2);
        }
    }

    private static void fivePlayers(CueBook b) {
        for (int i = 0; i < 5; i++) {
            b.addPlayer(20, 19);
        }
    }

    private static void fortyCues(CueBook b) {
        b.addPuppet(1, 1);
        b.enter(0, 0, 0, 0);
        for (int i = 1; i < 40; i++) {
            b.shift(0, i, i % 4);
        }
    }

    private void newObject() {
        checks.part("promise 1");
        for (int what = 0; what < 4; what++) {
            int w = what;
            checks.answers(PuppetsPlayersCuesTest::empty, "count(" + w + ")", b -> b.count(w), 0);
        }
        checks.answers(PuppetsPlayersCuesTest::empty, "onStage(0)", b -> b.onStage(0), 0);
        checks.answers(PuppetsPlayersCuesTest::empty, "clashes()", CueBook::clashes, 0);
        checks.answers(PuppetsPlayersCuesTest::empty, "uncast()", CueBook::uncast, 0);
        checks.answers(PuppetsPlayersCuesTest::empty, "worst()", CueBook::worst, -1);
        checks.refuses(PuppetsPlayersCuesTest::empty, "place(0, 0)", b -> b.place(0, 0), INDEX);
        CueBook first = new CueBook();
        CueBook second = new CueBook();
        first.addPuppet(1, 1);
        checks.same("count(0) of another new book", second.count(0), 0);
    }

    private void addPuppet() {
        checks.part("promise 2");
        CueBook book = new CueBook();
        for (int i = 0; i < 8; i++) {
            checks.same("addPuppet", book.addPuppet(i + 1, 1 + i % 2), i);
            checks.same("count(0)", book.count(0), i + 1);
        }
        checks.answers(PuppetsPlayersCuesTest::empty, "addPuppet(1, 1)", b -> b.addPuppet(1, 1), 0);
        checks.answers(PuppetsPlayersCuesTest::empty, "addPuppet(9, 2)", b -> b.addPuppet(9, 2), 0);
        for (int wrong : new int[] {-1, 0, 10, FAR[0], FAR[1]}) {
            checks.refuses(PuppetsPlayersCuesTest::walk, "addPuppet(" + wrong + ", 1)",
                    b -> b.addPuppet(wrong, 1), ARGUMENT);
        }
        for (int wrong : new int[] {-1, 0, 3, FAR[0], FAR[1]}) {
            checks.refuses(PuppetsPlayersCuesTest::walk, "addPuppet(1, " + wrong + ")",
                    b -> b.addPuppet(1, wrong), ARGUMENT);
        }
        checks.refuses(PuppetsPlayersCuesTest::eightPuppets, "a ninth", b -> b.addPuppet(1, 1), STATE);
        checks.refuses(PuppetsPlayersCuesTest::eightPuppets, "a ninth, too light",
                b -> b.addPuppet(0, 1), ARGUMENT);
        checks.refuses(PuppetsPlayersCuesTest::eightPuppets, "a ninth with three hands",
                b -> b.addPuppet(1, 3), ARGUMENT);
    }

    private void addPlayer() {
        checks.part("promise 3");
        CueBook book = new CueBook();
        for (int i = 0; i < 5; i++) {
            checks.same("addPlayer", book.addPlayer(1 + i, i), i);
            checks.same("count(1)", book.count(1), i + 1);
        }
        checks.answers(PuppetsPlayersCuesTest::empty, "addPlayer(1, 0)", b -> b.addPlayer(1, 0), 0);
        checks.answers(PuppetsPlayersCuesTest::empty, "addPlayer(20, 19)", b -> b.addPlayer(20, 19), 0);
        for (int wrong : new int[] {-1, 0, 21, FAR[0], FAR[1]}) {
            checks.refuses(PuppetsPlayersCuesTest::walk, "addPlayer(" + wrong + ", 0)",
                    b -> b.addPlayer(wrong, 0), ARGUMENT);
        }
        for (int wrong : new int[] {-1, 20, FAR[0], FAR[1]}) {
            checks.refuses(PuppetsPlayersCuesTest::walk, "addPlayer(1, " + wrong + ")",
                    b -> b.addPlayer(1, wrong), ARGUMENT);
        }
        checks.refuses(PuppetsPlayersCuesTest::fivePlayers, "a sixth", b -> b.addPlayer(1, 0), STATE);
        checks.refuses(PuppetsPlayersCuesTest::fivePlayers, "a sixth, too weak",
                b -> b.addPlayer(0, 0), ARGUMENT);
        checks.refuses(PuppetsPlayersCuesTest::fivePlayers, "a sixth, off the stage",
                b -> b.addPlayer(1, 20), ARGUMENT);
        checks.answers(b -> {
            walk(b);
            b.addPuppet(9, 1);
            b.enter(2, 40, 0, 0);
            b.uncast();
            b.addPlayer(9, 0);
        }, "a new player is in the casting at once: uncast()", CueBook::uncast, 0);
    }

    private void enter() {
        checks.part("promise 4");
        CueBook book = new CueBook();
        book.addPuppet(1, 1);
        book.addPuppet(1, 1);
        checks.same("enter(0, 0, 0, 0)", book.enter(0, 0, 0, 0), 0);
        checks.same("enter(1, 999, 19, 3)", book.enter(1, 999, 19, 3), 1);
        checks.same("place(0, 0)", book.place(0, 0), 0);
        checks.same("place(1, 998)", book.place(1, 998), -1);
        checks.same("place(1, 999)", book.place(1, 999), 19);
        checks.same("track(1, 999)", book.track(1, 999), 3);
        for (int wrong : new int[] {-1, 2, FAR[0], FAR[1]}) {
            checks.refuses(PuppetsPlayersCuesTest::walk, "enter(" + wrong + ", -1, 20, 4)",
                    b -> b.enter(wrong, -1, 20, 4), INDEX);
        }
        for (int wrong : new int[] {-1, 1000, FAR[0], FAR[1]}) {
            checks.refuses(PuppetsPlayersCuesTest::walk, "enter(0, " + wrong + ", 0, 0)",
                    b -> b.enter(0, wrong, 0, 0), ARGUMENT);
        }
        for (int wrong : new int[] {-1, 20, FAR[0], FAR[1]}) {
            checks.refuses(PuppetsPlayersCuesTest::walk, "enter(0, 15, " + wrong + ", 0)",
                    b -> b.enter(0, 15, wrong, 0), ARGUMENT);
        }
        for (int wrong : new int[] {-1, 4, FAR[0], FAR[1]}) {
            checks.refuses(PuppetsPlayersCuesTest::walk, "enter(0, 15, 0, " + wrong + ")",
                    b -> b.enter(0, 15, 0, wrong), ARGUMENT);
        }
        for (int beat : new int[] {10, 15, 29}) {
            checks.refuses(PuppetsPlayersCuesTest::walk, "on stage already: enter(0, " + beat + ", 0, 0)",
                    b -> b.enter(0, beat, 0, 0), STATE);
        }
        checks.refuses(PuppetsPlayersCuesTest::walk, "ahead of another ENTER: enter(0, 0, 0, 0)",
                b -> b.enter(0, 0, 0, 0), STATE);
        checks.refuses(PuppetsPlayersCuesTest::walk, "ahead of another ENTER: enter(0, 9, 0, 0)",
                b -> b.enter(0, 9, 0, 0), STATE);
        checks.answers(PuppetsPlayersCuesTest::walk, "at the beat of a LEAVE: enter(0, 30, 0, 0)",
                b -> b.enter(0, 30, 0, 0), 3);
        checks.answers(PuppetsPlayersCuesTest::walk, "enter(0, 31, 0, 0)", b -> b.enter(0, 31, 0, 0), 3);
        checks.answers(PuppetsPlayersCuesTest::walk, "another puppet: enter(1, 15, 0, 0)",
                b -> b.enter(1, 15, 0, 0), 3);
    }

    private void move() {
        checks.part("promise 5");
        for (int wrong : new int[] {-1, 2, FAR[0], FAR[1]}) {
            checks.refuses(PuppetsPlayersCuesTest::walk, "move(" + wrong + ", -1, 20)",
                    b -> b.move(wrong, -1, 20), INDEX);
        }
        for (int wrong : new int[] {-1, 1000, FAR[0], FAR[1]}) {
            checks.refuses(PuppetsPlayersCuesTest::walk, "move(0, " + wrong + ", 0)",
                    b -> b.move(0, wrong, 0), ARGUMENT);
        }
        for (int wrong : new int[] {-1, 20, FAR[0], FAR[1]}) {
            checks.refuses(PuppetsPlayersCuesTest::walk, "move(0, 13, " + wrong + ")",
                    b -> b.move(0, 13, wrong), ARGUMENT);
        }
        checks.refuses(PuppetsPlayersCuesTest::walk, "ahead of ENTER: move(0, 9, 5)",
                b -> b.move(0, 9, 5), STATE);
        checks.refuses(PuppetsPlayersCuesTest::walk, "behind LEAVE: move(0, 30, 9)",
                b -> b.move(0, 30, 9), STATE);
        checks.refuses(PuppetsPlayersCuesTest::walk, "never on stage: move(1, 15, 9)",
                b -> b.move(1, 15, 9), STATE);
        for (int beat : new int[] {12, 13, 15}) {
            checks.refuses(PuppetsPlayersCuesTest::walk, "in a MOVE: move(0, " + beat + ", 9)",
                    b -> b.move(0, beat, 9), STATE);
        }
        checks.answers(PuppetsPlayersCuesTest::walk, "at its end: move(0, 16, 0)", b -> b.move(0, 16, 0), 3);
        CueBook book = new CueBook();
        walk(book);
        checks.same("move(0, 16, 6)", book.move(0, 16, 6), 3);
        int[] places = {5, 5, 5, 6, 7, 8, 9, 8, 7, 6, 6, 6};
        for (int i = 0; i < places.length; i++) {
            checks.same("place(0, " + (10 + i) + ")", book.place(0, 10 + i), places[i]);
            checks.same("track(0, " + (10 + i) + ")", book.track(0, 10 + i), 1);
        }
        checks.same("to where it is: move(0, 19, 6)", book.move(0, 19, 6), 4);
        checks.same("once more, at the same beat: move(0, 19, 6)", book.move(0, 19, 6), 5);
        checks.same("place(0, 19)", book.place(0, 19), 6);
        checks.same("cue(5, 4)", book.cue(5, 4), -1);
    }

    private void moveEnds() {
        checks.part("promise 5, the end of a MOVE");
        Checks.Scene late = b -> {
            b.addPuppet(1, 1);
            b.enter(0, 900, 0, 0);
        };
        checks.answers(late, "ends at 999: move(0, 980, 19)", b -> b.move(0, 980, 19), 1);
        checks.refuses(late, "ends at 1000: move(0, 981, 19)", b -> b.move(0, 981, 19), STATE);
        checks.answers(late, "ends at 999: move(0, 998, 1)", b -> b.move(0, 998, 1), 1);
        checks.answers(late, "to where it is: move(0, 999, 0)", b -> b.move(0, 999, 0), 1);
        checks.refuses(late, "ends at 1000: move(0, 999, 1)", b -> b.move(0, 999, 1), STATE);
        Checks.Scene latest = b -> {
            late.set(b);
            b.move(0, 990, 9);
        };
        checks.answers(latest, "at its end: leave(0, 999)", b -> b.leave(0, 999), 2);
        checks.refuses(latest, "ahead of its end: leave(0, 998)", b -> b.leave(0, 998), STATE);
        checks.answers(latest, "place(0, 999)", b -> b.place(0, 999), 9);
        checks.answers(latest, "place(0, 998)", b -> b.place(0, 998), 8);
        checks.refuses(latest, "makes the later MOVE end at 1000: move(0, 950, 19)",
                b -> b.move(0, 950, 19), STATE);
        checks.answers(latest, "makes it end at 999: move(0, 950, 18)", b -> b.move(0, 950, 18), 2);
    }

    private void shift() {
        checks.part("promise 6");
        for (int wrong : new int[] {-1, 2, FAR[0], FAR[1]}) {
            checks.refuses(PuppetsPlayersCuesTest::walk, "shift(" + wrong + ", -1, 4)",
                    b -> b.shift(wrong, -1, 4), INDEX);
        }
        for (int wrong : new int[] {-1, 1000, FAR[0], FAR[1]}) {
            checks.refuses(PuppetsPlayersCuesTest::walk, "shift(0, " + wrong + ", 0)",
                    b -> b.shift(0, wrong, 0), ARGUMENT);
        }
        for (int wrong : new int[] {-1, 4, FAR[0], FAR[1]}) {
            checks.refuses(PuppetsPlayersCuesTest::walk, "shift(0, 13, " + wrong + ")",
                    b -> b.shift(0, 13, wrong), ARGUMENT);
        }
        for (int beat : new int[] {9, 12, 13, 15, 30, 999}) {
            checks.refuses(PuppetsPlayersCuesTest::walk, "not right: shift(0, " + beat + ", 2)",
                    b -> b.shift(0, beat, 2), STATE);
        }
        checks.refuses(PuppetsPlayersCuesTest::walk, "never on stage: shift(1, 15, 2)",
                b -> b.shift(1, 15, 2), STATE);
        CueBook book = new CueBook();
        walk(book);
        checks.same("shift(0, 16, 3)", book.shift(0, 16, 3), 3);
        checks.same("shift(0, 10, 0)", book.shift(0, 10, 0), 4);
        checks.same("to where it is: shift(0, 20, 3)", book.shift(0, 20, 3), 5);
        checks.same("track(0, 9)", book.track(0, 9), -1);
        checks.same("track(0, 10)", book.track(0, 10), 0);
        checks.same("track(0, 15)", book.track(0, 15), 0);
        checks.same("track(0, 16)", book.track(0, 16), 3);
        checks.same("track(0, 29)", book.track(0, 29), 3);
        checks.same("place(0, 16)", book.place(0, 16), 9);
        checks.same("cue(3, 3)", book.cue(3, 3), -1);
    }

    private void leave() {
        checks.part("promise 7");
        for (int wrong : new int[] {-1, 2, FAR[0], FAR[1]}) {
            checks.refuses(PuppetsPlayersCuesTest::walk, "leave(" + wrong + ", -1)",
                    b -> b.leave(wrong, -1), INDEX);
        }
        for (int wrong : new int[] {-1, 1000, FAR[0], FAR[1]}) {
            checks.refuses(PuppetsPlayersCuesTest::walk, "leave(0, " + wrong + ")",
                    b -> b.leave(0, wrong), ARGUMENT);
        }
        for (int beat : new int[] {9, 10, 11, 12, 15, 16, 20, 30, 31}) {
            checks.refuses(PuppetsPlayersCuesTest::walk, "not right: leave(0, " + beat + ")",
                    b -> b.leave(0, beat), STATE);
        }
        Checks.Scene entered = b -> {
            b.addPuppet(1, 1);
            b.enter(0, 10, 5, 1);
        };
        checks.refuses(entered, "at the beat of the ENTER: leave(0, 10)", b -> b.leave(0, 10), STATE);
        checks.refuses(entered, "ahead of it: leave(0, 9)", b -> b.leave(0, 9), STATE);
        checks.answers(entered, "a beat later: leave(0, 11)", b -> b.leave(0, 11), 1);
        checks.answers(entered, "leave(0, 999)", b -> b.leave(0, 999), 1);
        CueBook book = new CueBook();
        walk(book);
        checks.same("place(0, 29)", book.place(0, 29), 9);
        checks.same("place(0, 30)", book.place(0, 30), -1);
        checks.same("track(0, 30)", book.track(0, 30), -1);
        book.enter(0, 40, 7, 2);
        checks.same("of its second stay: leave(0, 41)", book.leave(0, 41), 4);
        checks.same("cue(4, 3)", book.cue(4, 3), -1);
        checks.same("cue(4, 4)", book.cue(4, 4), -1);
        Checks.Scene again = b -> {
            walk(b);
            b.enter(0, 40, 7, 2);
        };
        checks.refuses(again, "of the latest ENTER's beat: leave(0, 40)", b -> b.leave(0, 40), STATE);
    }

    private void cuesOfOneBeat() {
        checks.part("promises 4 to 7, cues of one beat");
        Checks.Scene entered = b -> {
            b.addPuppet(1, 1);
            b.enter(0, 10, 5, 1);
            b.shift(0, 20, 2);
            b.move(0, 20, 7);
        };
        checks.answers(entered, "a SHIFT ahead of a MOVE of its beat: track(0, 20)", b -> b.track(0, 20), 2);
        checks.refuses(entered, "a SHIFT behind a MOVE of its beat: shift(0, 20, 3)",
                b -> b.shift(0, 20, 3), STATE);
        Checks.Scene back = b -> {
            b.addPuppet(1, 1);
            b.enter(0, 10, 5, 1);
            b.leave(0, 20);
            b.enter(0, 20, 0, 3);
        };
        checks.answers(back, "out and in: place(0, 20)", b -> b.place(0, 20), 0);
        checks.answers(back, "out and in: track(0, 20)", b -> b.track(0, 20), 3);
        checks.answers(back, "out and in: beats(0)", b -> b.beats(0), 990);
        checks.refuses(back, "a second LEAVE of the beat: leave(0, 20)", b -> b.leave(0, 20), STATE);
        checks.refuses(back, "strike(1)", b -> b.strike(1), STATE);
        checks.answers(back, "the last one of a beat tells: track(0, 30)", b -> {
            b.shift(0, 30, 1);
            b.shift(0, 30, 0);
            return b.track(0, 30);
        }, 0);
    }

    private void cuesBehind() {
        checks.part("promises 4 to 7, another cue would not be right behind it");
        Checks.Scene two = b -> {
            b.addPuppet(1, 1);
            b.enter(0, 0, 0, 0);
            b.move(0, 10, 5);
            b.move(0, 20, 6);
            b.shift(0, 21, 1);
            b.leave(0, 100);
        };
        checks.refuses(two, "the next MOVE would take longer: move(0, 15, 4)", b -> b.move(0, 15, 4), STATE);
        checks.refuses(two, "it would end behind the next one: move(0, 19, 7)", b -> b.move(0, 19, 7), STATE);
        checks.answers(two, "the next MOVE takes no time: move(0, 19, 6)", b -> b.move(0, 19, 6), 5);
        checks.answers(two, "the next MOVE turns: move(0, 15, 7)", b -> b.move(0, 15, 7), 5);
        checks.refuses(two, "cues behind it: leave(0, 50) and another LEAVE", b -> b.leave(0, 50), STATE);
        checks.refuses(two, "a SHIFT behind it: leave(0, 16)", b -> b.leave(0, 16), STATE);
        checks.refuses(two, "the LEAVE comes ahead of its end: move(0, 99, 4)",
                b -> b.move(0, 99, 4), STATE);
        checks.answers(two, "the LEAVE comes at its end: move(0, 98, 4)", b -> b.move(0, 98, 4), 5);
    }

    private void fullBook() {
        checks.part("promises 4 to 7, 40 cues");
        CueBook book = new CueBook();
        fortyCues(book);
        checks.same("count(2)", book.count(2), 40);
        checks.refuses(PuppetsPlayersCuesTest::fortyCues, "move", b -> b.move(0, 500, 1), STATE);
        checks.refuses(PuppetsPlayersCuesTest::fortyCues, "shift", b -> b.shift(0, 500, 1), STATE);
        checks.refuses(PuppetsPlayersCuesTest::fortyCues, "leave", b -> b.leave(0, 500), STATE);
        checks.refuses(b -> {
            fortyCues(b);
            b.addPuppet(1, 1);
        }, "enter", b -> b.enter(1, 0, 0, 0), STATE);
        checks.refuses(PuppetsPlayersCuesTest::fortyCues, "no such puppet", b -> b.leave(1, 0), INDEX);
        checks.refuses(PuppetsPlayersCuesTest::fortyCues, "no such track", b -> b.shift(0, 500, 4), ARGUMENT);
        checks.refuses(b -> {
            fortyCues(b);
            b.strike(39);
        }, "a struck cue counts among the 40", b -> b.shift(0, 500, 1), STATE);
        checks.answers(b -> {
            b.addPuppet(1, 1);
            b.enter(0, 0, 0, 0);
            for (int i = 0; i < 38; i++) {
                b.move(0, i, 0);
            }
            Checks.outcome(b, c -> c.enter(0, 0, 0, 0));
        }, "a refused cue does not count", b -> b.leave(0, 999), 39);
    }

    private void strike() {
        checks.part("promise 8");
        CueBook book = new CueBook();
        walk(book);
        book.enter(1, 0, 3, 0);
        checks.same("the MOVE: strike(1)", book.strike(1), 2);
        checks.same("place(0, 16)", book.place(0, 16), 5);
        checks.same("count(2)", book.count(2), 4);
        checks.same("count(3)", book.count(3), 1);
        checks.same("the LEAVE: strike(2)", book.strike(2), 1);
        checks.same("place(0, 999)", book.place(0, 999), 5);
        checks.same("stay(0, 0, 1)", book.stay(0, 0, 1), 1000);
        checks.same("the ENTER: strike(0)", book.strike(0), 0);
        checks.same("place(0, 500)", book.place(0, 500), -1);
        checks.same("stays(0)", book.stays(0), 0);
        checks.same("onStage(500)", book.onStage(500), 2);
        checks.same("a number is not used again: enter(0, 0, 0, 0)", book.enter(0, 0, 0, 0), 4);
        checks.same("the other puppet's: strike(3)", book.strike(3), 0);
        checks.same("count(3)", book.count(3), 4);
        for (int wrong : new int[] {-1, 3, FAR[0], FAR[1]}) {
            checks.refuses(PuppetsPlayersCuesTest::walk, "strike(" + wrong + ")", b -> b.strike(wrong), INDEX);
        }
        checks.refuses(PuppetsPlayersCuesTest::empty, "strike(0)", b -> b.strike(0), INDEX);
        checks.refuses(b -> {
            walk(b);
            b.strike(1);
        }, "once more: strike(1)", b -> b.strike(1), INDEX);
    }

    private void strikeRefused() {
        checks.part("promise 8, another cue needs it");
        checks.refuses(PuppetsPlayersCuesTest::walk, "the ENTER: strike(0)", b -> b.strike(0), STATE);
        Checks.Scene ways = b -> {
            b.addPuppet(1, 1);
            b.enter(0, 0, 0, 0);
            b.move(0, 0, 5);
            b.move(0, 5, 2);
            b.move(0, 8, 2);
            b.move(0, 8, 9);
            b.leave(0, 15);
        };
        checks.answers(ways, "strike(3)", b -> b.strike(3), 5);
        checks.answers(ways, "strike(4)", b -> b.strike(4), 5);
        checks.refuses(b -> {
            ways.set(b);
            b.strike(3);
            b.strike(2);
        }, "the next MOVE would still be under way at the LEAVE: strike(1)", b -> b.strike(1), STATE);
        Checks.Scene late = b -> {
            b.addPuppet(1, 1);
            b.enter(0, 0, 0, 0);
            b.move(0, 500, 15);
            b.move(0, 995, 19);
        };
        checks.refuses(late, "the next MOVE would end behind 999: strike(1)", b -> b.strike(1), STATE);
        checks.answers(late, "strike(2)", b -> b.strike(2), 2);
        Checks.Scene again = b -> {
            walk(b);
            b.enter(0, 30, 5, 0);
        };
        checks.refuses(again, "the LEAVE ahead of another ENTER: strike(2)", b -> b.strike(2), STATE);
    }

    private void count() {
        checks.part("promise 9");
        Checks.Scene scene = b -> {
            walk(b);
            b.strike(1);
        };
        int[] due = {2, 1, 3, 1};
        for (int what = 0; what < 4; what++) {
            int w = what;
            checks.answers(scene, "count(" + w + ")", b -> b.count(w), due[w]);
        }
        for (int wrong : new int[] {-1, 4, FAR[0], FAR[1]}) {
            checks.refuses(scene, "count(" + wrong + ")", b -> b.count(wrong), INDEX);
        }
    }

    private void cue() {
        checks.part("promise 10");
        Checks.Scene scene = b -> {
            walk(b);
            b.enter(1, 0, 19, 3);
            b.shift(1, 7, 2);
            b.strike(1);
        };
        int[][] due = {{0, 0, 10, 5, 1}, {}, {3, 0, 30, -1, -1}, {0, 1, 0, 19, 3}, {2, 1, 7, -1, 2}};
        for (int cue = 0; cue < due.length; cue++) {
            for (int what = 0; what < due[cue].length; what++) {
                int c = cue;
                int w = what;
                checks.answers(scene, "cue(" + c + ", " + w + ")", b -> b.cue(c, w), due[c][w]);
            }
        }
        int[] move = {1, 0, 12, 9, -1};
        for (int what = 0; what < 5; what++) {
            int w = what;
            checks.answers(PuppetsPlayersCuesTest::walk, "cue(1, " + w + ")", b -> b.cue(1, w), move[w]);
            checks.refuses(scene, "struck out: cue(1, " + w + ")", b -> b.cue(1, w), INDEX);
        }
        for (int wrong : new int[] {-1, 5, FAR[0], FAR[1]}) {
            checks.refuses(scene, "cue(" + wrong + ", 0)", b -> b.cue(wrong, 0), INDEX);
            checks.refuses(scene, "cue(0, " + wrong + ")", b -> b.cue(0, wrong), INDEX);
        }
    }
}
