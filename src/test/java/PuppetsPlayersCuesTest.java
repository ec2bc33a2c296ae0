/** Promises 1 to 10: puppets, players and cues. */
final class PuppetsPlayersCuesTest {
    private static final int[] NO_PUPPETS_OF_WALK = Checks.outside(0, 1);
    private static final int[] NO_BEATS = Checks.outside(0, 999);
    private static final int[] NO_PLACES = Checks.outside(0, 19);
    private static final int[] NO_TRACKS = Checks.outside(0, 3);

    /** The book has 40 cues, and 39 of them were struck out. */
    private static final Checks.Scene ALL_BUT_ONE_STRUCK = Scenes.FORTY_CUES.then(b -> {
        for (int cue = 1; cue < 40; cue++) {
            b.strike(cue);
        }
    });

    private static final Checks.Scene THIRTY_NINE_CUES = b -> {
        b.addPuppet(1, 1);
        b.addPuppet(1, 1);
        b.enter(0, 0, 0, 0);
        for (int i = 1; i < 39; i++) {
            b.move(0, i, 0);
            Checks.outcome(b, c -> c.enter(0, 0, 0, 0));
        }
    };

    private final Checks checks = new Checks();
    private final Document doc = new Document(checks);

    public static void main(String[] args) {
        PuppetsPlayersCuesTest test = new PuppetsPlayersCuesTest();
        test.newObject();
        test.addPuppet();
        test.addPlayer();
        test.enter();
        test.enterRefused();
        test.move();
        test.moveRefused();
        test.shift();
        test.shiftRefused();
        test.leave();
        test.leaveRefused();
        test.strike();
        test.strikeRefused();
        test.count();
        test.cue();
        test.doc.end();
        test.checks.report("PuppetsPlayersCuesTest");
    }

    private void newObject() {
        doc.section("Promise 1: A new object");
        doc.says("Creates a book without puppets, players and cues.");
        checks.answersEach(Scenes.EMPTY, "count(#)", new int[] {0, 1, 2, 3}, CueBook::count, 0);
        checks.answersEach(Scenes.EMPTY, "onStage(#)", new int[] {0, 500, 999}, CueBook::onStage, 0);
        checks.answers(Scenes.EMPTY, "clashes()", CueBook::clashes, 0);
        checks.answers(Scenes.EMPTY, "uncast()", CueBook::uncast, 0);
        checks.answers(Scenes.EMPTY, "worst()", CueBook::worst, -1);
        checks.answers(Scenes.EMPTY, "digest()", CueBook::digest, 277L * 31 * 31 * 31 * 31);
        Checks.Call[] ofNumberZero = {b -> b.enter(0, 0, 0, 0), b -> b.move(0, 0, 0), b -> b.shift(0, 0, 0),
            b -> b.leave(0, 0), b -> b.strike(0), b -> b.cue(0, 0), b -> b.place(0, 0), b -> b.track(0, 0),
            b -> b.clash(0, 1), b -> b.clash(0, 0), b -> b.beats(0), b -> b.stays(0), b -> b.stay(0, 0, 0),
            b -> b.hands(0, 0), b -> b.load(0), b -> b.note(0, 0), b -> b.mean(0)};
        for (int i = 0; i < ofNumberZero.length; i++) {
            checks.refuses(Scenes.EMPTY, "call " + i + " of a number that is not there yet", ofNumberZero[i],
                    Checks.INDEX);
        }
        CueBook first = new CueBook();
        CueBook second = new CueBook();
        first.addPuppet(1, 1);
        checks.same("count(0) of another new book", second.count(0), 0);
    }

    private void addPuppet() {
        doc.section("Promise 2: addPuppet");
        doc.says("Adds a puppet.");
        Checks.Scene more = Scenes.WALK.then(b -> b.addPuppet(9, 2));
        checks.answers(more, "count(0)", b -> b.count(0), 3);
        checks.answers(more, "it has no cue: stays(2)", b -> b.stays(2), 0);
        checks.answers(more, "it is not on stage: place(2, 0)", b -> b.place(2, 0), -1);
        checks.answers(more, "the others are as they were: place(0, 16)", b -> b.place(0, 16), 9);
        doc.says("- `weight`: its weight");
        for (int weight = 1; weight <= 9; weight++) {
            int w = weight;
            Checks.Scene held = b -> {
                b.addPuppet(w, 1);
                b.addPlayer(w == 1 ? 1 : w - 1, 0);
                b.addPlayer(w, 0);
                b.enter(0, 0, 0, 0);
            };
            checks.answers(held, "weight " + w + " for a player of less, and one of as much: stay(0, 0, 2)",
                    b -> b.stay(0, 0, 2), w == 1 ? 0 : 1);
        }
        doc.says("- `hands`: how many hands it needs");
        for (int hands = 1; hands <= 2; hands++) {
            int h = hands;
            checks.answers(b -> {
                b.addPuppet(1, h);
                b.addPuppet(1, 1);
                b.addPlayer(20, 0);
                b.enter(0, 0, 0, 0);
                b.enter(1, 0, 0, 1);
            }, h + " hands, and one more puppet: uncast()", CueBook::uncast, h - 1);
        }
        doc.says("Returns its number.");
        CueBook book = new CueBook();
        for (int i = 0; i < 8; i++) {
            checks.same("addPuppet", book.addPuppet(i + 1, 1 + i % 2), i);
            checks.same("count(0)", book.count(0), i + 1);
        }
        addPuppetRefused();
    }

    private void addPuppetRefused() {
        doc.says("Throws `IllegalArgumentException` if weight is not 1 to 9");
        checks.answersEach(Scenes.EMPTY, "addPuppet(#, 1)", new int[] {1, 9}, (b, x) -> b.addPuppet(x, 1), 0);
        checks.refusesEach(Scenes.WALK, "addPuppet(#, 1)", Checks.outside(1, 9),
                (b, x) -> b.addPuppet(x, 1), Checks.ARGUMENT);
        doc.says(", or hands is not 1 or 2");
        checks.answersEach(Scenes.EMPTY, "addPuppet(9, #)", new int[] {1, 2}, (b, x) -> b.addPuppet(9, x), 0);
        checks.refusesEach(Scenes.WALK, "addPuppet(1, #)", Checks.outside(1, 2),
                (b, x) -> b.addPuppet(1, x), Checks.ARGUMENT);
        checks.refuses(Scenes.WALK, "addPuppet(0, 0)", b -> b.addPuppet(0, 0), Checks.ARGUMENT);
        doc.says("Throws `IllegalStateException` if there are 8 puppets");
        checks.answers(b -> {
            for (int i = 0; i < 7; i++) {
                b.addPuppet(1, 1);
            }
        }, "the eighth", b -> b.addPuppet(1, 1), 7);
        checks.refuses(Scenes.EIGHT_PUPPETS, "the ninth", b -> b.addPuppet(1, 1), Checks.STATE);
        checks.refuses(Scenes.EIGHT_PUPPETS, "the ninth, too light", b -> b.addPuppet(0, 1), Checks.ARGUMENT);
        checks.refuses(Scenes.EIGHT_PUPPETS, "the ninth, with three hands", b -> b.addPuppet(1, 3),
                Checks.ARGUMENT);
    }

    private void addPlayer() {
        doc.section("Promise 3: addPlayer");
        doc.says("Adds a player.");
        Checks.Scene more = Scenes.WALK.then(b -> b.addPlayer(9, 0));
        checks.answers(more, "count(1)", b -> b.count(1), 2);
        checks.answers(more, "the first one has the stay: load(1)", b -> b.load(1), 0);
        checks.answers(b -> {
            b.addPuppet(9, 1);
            b.enter(0, 40, 0, 0);
            b.uncast();
            b.addPlayer(9, 0);
        }, "it is in the casting at once: uncast()", CueBook::uncast, 0);
        doc.says("- `strength`: its strength");
        for (int strength : new int[] {1, 8, 9, 20}) {
            checks.answers(b -> {
                b.addPlayer(strength, 0);
                b.addPuppet(9, 1);
                b.enter(0, 0, 0, 0);
            }, "strength " + strength + ", weight 9: uncast()", CueBook::uncast, strength >= 9 ? 0 : 1);
        }
        doc.says("- `place`: its place at first");
        for (int place = 0; place < 20; place++) {
            int home = place;
            checks.answers(b -> {
                b.addPlayer(1, home == 19 ? 18 : home + 1);
                b.addPlayer(1, home);
                b.addPuppet(1, 1);
                b.enter(0, 0, home, 0);
            }, "next to place " + place + ", and there: stay(0, 0, 2)", b -> b.stay(0, 0, 2), 1);
        }
        doc.says("Returns its number.");
        CueBook book = new CueBook();
        for (int i = 0; i < 5; i++) {
            checks.same("addPlayer", book.addPlayer(1 + i, i), i);
            checks.same("count(1)", book.count(1), i + 1);
        }
        addPlayerRefused();
    }

    private void addPlayerRefused() {
        doc.says("Throws `IllegalArgumentException` if strength is not 1 to 20");
        checks.answersEach(Scenes.EMPTY, "addPlayer(#, 19)", new int[] {1, 20}, (b, x) -> b.addPlayer(x, 19), 0);
        checks.refusesEach(Scenes.WALK, "addPlayer(#, 0)", Checks.outside(1, 20),
                (b, x) -> b.addPlayer(x, 0), Checks.ARGUMENT);
        doc.says(", or place is not 0 to 19");
        checks.answersEach(Scenes.EMPTY, "addPlayer(20, #)", new int[] {0, 19}, (b, x) -> b.addPlayer(20, x), 0);
        checks.refusesEach(Scenes.WALK, "addPlayer(1, #)", NO_PLACES,
                (b, x) -> b.addPlayer(1, x), Checks.ARGUMENT);
        checks.refuses(Scenes.WALK, "addPlayer(0, 20)", b -> b.addPlayer(0, 20), Checks.ARGUMENT);
        doc.says("Throws `IllegalStateException` if there are 5 players");
        checks.answers(b -> {
            for (int i = 0; i < 4; i++) {
                b.addPlayer(1, 0);
            }
        }, "the fifth", b -> b.addPlayer(1, 0), 4);
        checks.refuses(Scenes.FIVE_PLAYERS, "the sixth", b -> b.addPlayer(1, 0), Checks.STATE);
        checks.refuses(Scenes.FIVE_PLAYERS, "the sixth, too weak", b -> b.addPlayer(0, 0), Checks.ARGUMENT);
        checks.refuses(Scenes.FIVE_PLAYERS, "the sixth, off the stage", b -> b.addPlayer(1, 20), Checks.ARGUMENT);
    }

    private void enter() {
        doc.section("Promise 4: enter");
        doc.says("Writes an ENTER.");
        Checks.Scene two = b -> {
            b.addPuppet(1, 1);
            b.addPuppet(1, 1);
            b.enter(0, 0, 0, 0);
            b.enter(1, 999, 19, 3);
        };
        checks.answers(two, "count(2)", b -> b.count(2), 2);
        checks.answers(two, "cue(1, 0)", b -> b.cue(1, 0), 0);
        doc.says("- `puppet`: the puppet");
        checks.answersEach(two, "cue(#, 1)", new int[] {0, 1}, (b, x) -> b.cue(x, 1) - x, 0);
        checks.answers(Scenes.EIGHT_PUPPETS.then(b -> b.enter(7, 5, 1, 1)), "onStage(5)", b -> b.onStage(5), 128);
        doc.says("- `beat`: the beat");
        checks.answers(two, "place(0, 0)", b -> b.place(0, 0), 0);
        checks.answers(two, "place(1, 998)", b -> b.place(1, 998), -1);
        checks.answers(two, "place(1, 999)", b -> b.place(1, 999), 19);
        doc.says("- `place`: the place");
        checks.answersEach(Scenes.ONE_PUPPET, "enter(0, 3, #, 0), place(0, 3) - #", new int[] {0, 1, 18, 19},
                (b, x) -> b.enter(0, 3, x, 0) + b.place(0, 3) - x, 0);
        doc.says("- `track`: the track");
        checks.answersEach(Scenes.ONE_PUPPET, "enter(0, 3, 0, #), track(0, 3) - #", new int[] {0, 1, 2, 3},
                (b, x) -> b.enter(0, 3, 0, x) + b.track(0, 3) - x, 0);
        doc.says("Returns the number of the cue.");
        checks.answers(Scenes.ONE_PUPPET, "enter(0, 0, 0, 0)", b -> b.enter(0, 0, 0, 0), 0);
        checks.answers(Scenes.WALK, "enter(1, 15, 0, 0)", b -> b.enter(1, 15, 0, 0), 3);
        checks.answers(THIRTY_NINE_CUES, "enter(1, 0, 0, 0)", b -> b.enter(1, 0, 0, 0), 39);
    }

    private void enterRefused() {
        doc.says("Throws `IndexOutOfBoundsException` if there is no such puppet");
        checks.refusesEach(Scenes.WALK, "enter(#, 40, 0, 0)", NO_PUPPETS_OF_WALK,
                (b, x) -> b.enter(x, 40, 0, 0), Checks.INDEX);
        checks.refusesEach(Scenes.WALK, "enter(#, -1, 20, 4)", NO_PUPPETS_OF_WALK,
                (b, x) -> b.enter(x, -1, 20, 4), Checks.INDEX);
        checks.refuses(Scenes.EIGHT_PUPPETS, "enter(8, 0, 0, 0)", b -> b.enter(8, 0, 0, 0), Checks.INDEX);
        doc.says("Throws `IllegalArgumentException` if beat is not 0 to 999");
        checks.refusesEach(Scenes.WALK, "enter(0, #, 0, 0)", NO_BEATS,
                (b, x) -> b.enter(0, x, 0, 0), Checks.ARGUMENT);
        doc.says(", place is not 0 to 19");
        checks.refusesEach(Scenes.WALK, "enter(0, 40, #, 0)", NO_PLACES,
                (b, x) -> b.enter(0, 40, x, 0), Checks.ARGUMENT);
        doc.says(", or track is not 0 to 3");
        checks.refusesEach(Scenes.WALK, "enter(0, 40, 0, #)", NO_TRACKS,
                (b, x) -> b.enter(0, 40, 0, x), Checks.ARGUMENT);
        doc.says("Throws `IllegalStateException` if there are 40 cues");
        checks.refuses(Scenes.FORTY_CUES, "enter(1, 0, 0, 0)", b -> b.enter(1, 0, 0, 0), Checks.STATE);
        checks.refuses(ALL_BUT_ONE_STRUCK, "enter(1, 0, 0, 0)", b -> b.enter(1, 0, 0, 0), Checks.STATE);
        doc.says(", or it would not be right");
        checks.refusesEach(Scenes.WALK, "on stage already: enter(0, #, 0, 0)", new int[] {10, 15, 29},
                (b, x) -> b.enter(0, x, 0, 0), Checks.STATE);
        checks.answersEach(Scenes.WALK, "out again: enter(0, #, 0, 0)", new int[] {30, 31, 999},
                (b, x) -> b.enter(0, x, 0, 0), 3);
        doc.says(", or another cue would not be right behind it");
        checks.refusesEach(Scenes.WALK, "ahead of another ENTER: enter(0, #, 0, 0)", new int[] {0, 9},
                (b, x) -> b.enter(0, x, 0, 0), Checks.STATE);
        checks.answers(Scenes.WALK, "the other is of another puppet: enter(1, 9, 0, 0)",
                b -> b.enter(1, 9, 0, 0), 3);
    }

    private void move() {
        doc.section("Promise 5: move");
        doc.says("Writes a MOVE.");
        Checks.Scene more = Scenes.WALK.then(b -> b.move(0, 16, 6));
        int[] places = {5, 5, 5, 6, 7, 8, 9, 8, 7, 6, 6, 6};
        for (int i = 0; i < places.length; i++) {
            int beat = 10 + i;
            checks.answers(more, "place(0, " + beat + ")", b -> b.place(0, beat), places[i]);
            checks.answers(more, "track(0, " + beat + ")", b -> b.track(0, beat), 1);
        }
        checks.answers(more, "cue(3, 0)", b -> b.cue(3, 0), 1);
        doc.says("- `puppet`: the puppet");
        checks.answers(more, "cue(3, 1)", b -> b.cue(3, 1), 0);
        checks.answers(Scenes.EIGHT_PUPPETS.then(b -> {
            b.enter(0, 0, 0, 0);
            b.enter(7, 0, 0, 0);
            b.move(7, 0, 3);
        }), "place(7, 3), and place(0, 3)", b -> 100 * b.place(7, 3) + b.place(0, 3), 300);
        doc.says("- `beat`: the beat");
        checks.answers(more, "cue(3, 2)", b -> b.cue(3, 2), 16);
        checks.answers(Scenes.ONE_PUPPET.then(b -> b.enter(0, 0, 0, 0)), "move(0, 0, 1), place(0, 1)",
                b -> b.move(0, 0, 1) + b.place(0, 1), 2);
        doc.says("- `place`: the place");
        checks.answers(more, "cue(3, 3)", b -> b.cue(3, 3), 6);
        checks.answersEach(Scenes.WALK, "move(0, 16, #), place(0, 29) - #", new int[] {0, 8, 9, 10, 19},
                (b, x) -> b.move(0, 16, x) + b.place(0, 29) - x, 3);
        doc.says("Returns the number of the cue.");
        checks.answers(Scenes.WALK, "at the end of a MOVE: move(0, 16, 0)", b -> b.move(0, 16, 0), 3);
        checks.answers(more, "to where it is: move(0, 19, 6)", b -> b.move(0, 19, 6), 4);
        checks.answers(more.then(b -> b.move(0, 19, 6)), "once more: move(0, 19, 6)", b -> b.move(0, 19, 6), 5);
        checks.answers(THIRTY_NINE_CUES, "move(0, 50, 1)", b -> b.move(0, 50, 1), 39);
    }

    private void moveRefused() {
        doc.says("Throws `IndexOutOfBoundsException` if there is no such puppet");
        checks.refusesEach(Scenes.WALK, "move(#, 20, 0)", NO_PUPPETS_OF_WALK,
                (b, x) -> b.move(x, 20, 0), Checks.INDEX);
        checks.refusesEach(Scenes.WALK, "move(#, -1, 20)", NO_PUPPETS_OF_WALK,
                (b, x) -> b.move(x, -1, 20), Checks.INDEX);
        doc.says("Throws `IllegalArgumentException` if beat is not 0 to 999");
        checks.refusesEach(Scenes.WALK, "move(0, #, 9)", NO_BEATS, (b, x) -> b.move(0, x, 9), Checks.ARGUMENT);
        doc.says(", or place is not 0 to 19");
        checks.refusesEach(Scenes.WALK, "move(0, 20, #)", NO_PLACES,
                (b, x) -> b.move(0, 20, x), Checks.ARGUMENT);
        doc.says("Throws `IllegalStateException` if there are 40 cues");
        checks.refuses(Scenes.FORTY_CUES, "move(0, 500, 1)", b -> b.move(0, 500, 1), Checks.STATE);
        checks.refuses(ALL_BUT_ONE_STRUCK, "move(0, 500, 1)", b -> b.move(0, 500, 1), Checks.STATE);
        doc.says(", it would not be right");
        checks.refuses(Scenes.WALK, "ahead of the ENTER: move(0, 9, 5)", b -> b.move(0, 9, 5), Checks.STATE);
        checks.refuses(Scenes.WALK, "at the LEAVE: move(0, 30, 9)", b -> b.move(0, 30, 9), Checks.STATE);
        checks.refuses(Scenes.WALK, "never on stage: move(1, 15, 9)", b -> b.move(1, 15, 9), Checks.STATE);
        checks.refusesEach(Scenes.WALK, "in a MOVE: move(0, #, 9)", new int[] {12, 13, 15},
                (b, x) -> b.move(0, x, 9), Checks.STATE);
        Checks.Scene ever = Scenes.ONE_PUPPET.then(b -> b.enter(0, 900, 0, 0));
        checks.answers(ever, "ends at 999: move(0, 980, 19)", b -> b.move(0, 980, 19), 1);
        checks.refuses(ever, "ends at 1000: move(0, 981, 19)", b -> b.move(0, 981, 19), Checks.STATE);
        doc.says(", or another cue would not be right behind it");
        checks.answers(Scenes.WALK, "the LEAVE comes at its end: move(0, 21, 0)", b -> b.move(0, 21, 0), 3);
        checks.refuses(Scenes.WALK, "the LEAVE comes ahead of its end: move(0, 22, 0)",
                b -> b.move(0, 22, 0), Checks.STATE);
        checks.answers(Scenes.WALK, "the MOVE comes at its end: move(0, 10, 7)", b -> b.move(0, 10, 7), 3);
        checks.refuses(Scenes.WALK, "the MOVE comes ahead of its end: move(0, 11, 7)",
                b -> b.move(0, 11, 7), Checks.STATE);
        Checks.Scene close = Scenes.WALK.then(b -> b.shift(0, 16, 2));
        checks.answers(close, "the MOVE takes as long: move(0, 10, 5)", b -> b.move(0, 10, 5), 4);
        checks.refuses(close, "the MOVE takes longer, the SHIFT does not wait: move(0, 10, 4)",
                b -> b.move(0, 10, 4), Checks.STATE);
    }

    private void shift() {
        doc.section("Promise 6: shift");
        doc.says("Writes a SHIFT.");
        Checks.Scene more = Scenes.WALK.then(b -> {
            b.shift(0, 16, 3);
            b.shift(0, 10, 0);
        });
        int[][] tracks = {{9, -1}, {10, 0}, {15, 0}, {16, 3}, {29, 3}, {30, -1}};
        for (int[] row : tracks) {
            checks.answers(more, "track(0, " + row[0] + ")", b -> b.track(0, row[0]), row[1]);
        }
        checks.answers(more, "place(0, 16)", b -> b.place(0, 16), 9);
        checks.answers(more, "cue(3, 0)", b -> b.cue(3, 0), 2);
        doc.says("- `puppet`: the puppet");
        checks.answers(Scenes.EIGHT_PUPPETS.then(b -> {
            b.enter(0, 0, 0, 0);
            b.enter(7, 0, 0, 0);
            b.shift(7, 5, 3);
        }), "track(7, 5), and track(0, 5)", b -> 100 * b.track(7, 5) + b.track(0, 5), 300);
        doc.says("- `beat`: the beat");
        checks.answersEach(more, "cue(#, 2)", new int[] {3, 4}, (b, x) -> b.cue(x, 2) + 6 * x, 34);
        doc.says("- `track`: the track");
        checks.answersEach(Scenes.WALK, "shift(0, 20, #), track(0, 20) - #", new int[] {0, 1, 2, 3},
                (b, x) -> b.shift(0, 20, x) + b.track(0, 20) - x, 3);
        doc.says("Returns the number of the cue.");
        checks.answers(Scenes.WALK, "shift(0, 16, 2)", b -> b.shift(0, 16, 2), 3);
        checks.answers(Scenes.WALK, "to where it is: shift(0, 16, 1)", b -> b.shift(0, 16, 1), 3);
        checks.answers(THIRTY_NINE_CUES, "shift(0, 999, 3)", b -> b.shift(0, 999, 3), 39);
    }

    private void shiftRefused() {
        doc.says("Throws `IndexOutOfBoundsException` if there is no such puppet");
        checks.refusesEach(Scenes.WALK, "shift(#, 20, 0)", NO_PUPPETS_OF_WALK,
                (b, x) -> b.shift(x, 20, 0), Checks.INDEX);
        checks.refusesEach(Scenes.WALK, "shift(#, -1, 4)", NO_PUPPETS_OF_WALK,
                (b, x) -> b.shift(x, -1, 4), Checks.INDEX);
        doc.says("Throws `IllegalArgumentException` if beat is not 0 to 999");
        checks.refusesEach(Scenes.WALK, "shift(0, #, 0)", NO_BEATS,
                (b, x) -> b.shift(0, x, 0), Checks.ARGUMENT);
        doc.says(", or track is not 0 to 3");
        checks.refusesEach(Scenes.WALK, "shift(0, 20, #)", NO_TRACKS,
                (b, x) -> b.shift(0, 20, x), Checks.ARGUMENT);
        doc.says("Throws `IllegalStateException` if there are 40 cues");
        checks.refuses(Scenes.FORTY_CUES, "shift(0, 500, 1)", b -> b.shift(0, 500, 1), Checks.STATE);
        checks.refuses(ALL_BUT_ONE_STRUCK, "shift(0, 500, 1)", b -> b.shift(0, 500, 1), Checks.STATE);
        doc.says(", or it would not be right");
        checks.refusesEach(Scenes.WALK, "shift(0, #, 2)", new int[] {0, 9, 12, 13, 15, 30, 999},
                (b, x) -> b.shift(0, x, 2), Checks.STATE);
        checks.answersEach(Scenes.WALK, "shift(0, #, 2)", new int[] {10, 11, 16, 29},
                (b, x) -> b.shift(0, x, 2), 3);
        checks.refuses(Scenes.WALK, "never on stage: shift(1, 15, 2)", b -> b.shift(1, 15, 2), Checks.STATE);
        doc.says(", or another cue would not be right behind it");
        checks.answersEach(Scenes.WALK, "no cue needs a track, so all others stay right: shift(0, #, 0)",
                new int[] {10, 11, 16, 29}, (b, x) -> 100 * b.shift(0, x, 0) + b.place(0, 16), 309);
    }

    private void leave() {
        doc.section("Promise 7: leave");
        doc.says("Writes a LEAVE.");
        int[][] places = {{29, 9, 1}, {30, -1, -1}, {999, -1, -1}};
        for (int[] row : places) {
            checks.answers(Scenes.WALK, "place(0, " + row[0] + ")", b -> b.place(0, row[0]), row[1]);
            checks.answers(Scenes.WALK, "track(0, " + row[0] + ")", b -> b.track(0, row[0]), row[2]);
        }
        checks.answers(Scenes.WALK, "cue(2, 0)", b -> b.cue(2, 0), 3);
        Checks.Scene in = Scenes.ONE_PUPPET.then(b -> b.enter(0, 10, 5, 1));
        doc.says("- `puppet`: the puppet");
        checks.answers(Scenes.EIGHT_PUPPETS.then(b -> {
            b.enter(0, 0, 0, 0);
            b.enter(7, 0, 0, 0);
            b.leave(7, 5);
        }), "onStage(5)", b -> b.onStage(5), 1);
        doc.says("- `beat`: the beat");
        checks.answersEach(in, "leave(0, #), beats(0) - #", new int[] {11, 12, 500, 999},
                (b, x) -> b.leave(0, x) + b.beats(0) - x, 1 - 10);
        doc.says("Returns the number of the cue.");
        checks.answers(in, "leave(0, 11)", b -> b.leave(0, 11), 1);
        checks.answers(Scenes.WALK.then(b -> b.enter(0, 40, 7, 2)), "of its second stay: leave(0, 41)",
                b -> b.leave(0, 41), 4);
        checks.answers(THIRTY_NINE_CUES, "leave(0, 999)", b -> b.leave(0, 999), 39);
    }

    private void leaveRefused() {
        doc.says("Throws `IndexOutOfBoundsException` if there is no such puppet");
        checks.refusesEach(Scenes.WALK, "leave(#, 20)", NO_PUPPETS_OF_WALK,
                (b, x) -> b.leave(x, 20), Checks.INDEX);
        checks.refusesEach(Scenes.WALK, "leave(#, -1)", NO_PUPPETS_OF_WALK,
                (b, x) -> b.leave(x, -1), Checks.INDEX);
        doc.says("Throws `IllegalArgumentException` if beat is not 0 to 999");
        checks.refusesEach(Scenes.WALK, "leave(0, #)", NO_BEATS, (b, x) -> b.leave(0, x), Checks.ARGUMENT);
        doc.says("Throws `IllegalStateException` if there are 40 cues");
        checks.refuses(Scenes.FORTY_CUES, "leave(0, 500)", b -> b.leave(0, 500), Checks.STATE);
        checks.refuses(ALL_BUT_ONE_STRUCK, "leave(0, 500)", b -> b.leave(0, 500), Checks.STATE);
        doc.says(", or it would not be right");
        checks.refusesEach(Scenes.WALK, "leave(0, #)", new int[] {0, 9, 10, 12, 15, 30, 31, 999},
                (b, x) -> b.leave(0, x), Checks.STATE);
        checks.refuses(Scenes.WALK, "never on stage: leave(1, 15)", b -> b.leave(1, 15), Checks.STATE);
        doc.says(", or another cue would not be right behind it");
        checks.refusesEach(Scenes.WALK, "another LEAVE behind it: leave(0, #)", new int[] {16, 20, 29},
                (b, x) -> b.leave(0, x), Checks.STATE);
        Checks.Scene noLeave = Scenes.WALK.then(b -> {
            b.strike(2);
            b.shift(0, 20, 3);
        });
        checks.refuses(noLeave, "a MOVE behind it: leave(0, 11)", b -> b.leave(0, 11), Checks.STATE);
        checks.refuses(noLeave, "a SHIFT behind it: leave(0, 19)", b -> b.leave(0, 19), Checks.STATE);
        checks.answers(noLeave, "the SHIFT ahead of it: leave(0, 20)", b -> b.leave(0, 20), 4);
    }

    private void strike() {
        doc.section("Promise 8: strike");
        doc.says("Strikes a cue out");
        CueBook book = new CueBook();
        Scenes.WALK.set(book);
        book.enter(1, 0, 3, 0);
        checks.same("the MOVE: strike(1)", book.strike(1), 2);
        checks.same("place(0, 16)", book.place(0, 16), 5);
        checks.same("the LEAVE: strike(2)", book.strike(2), 1);
        checks.same("place(0, 999)", book.place(0, 999), 5);
        checks.same("stay(0, 0, 1)", book.stay(0, 0, 1), 1000);
        checks.same("the ENTER: strike(0)", book.strike(0), 0);
        checks.same("place(0, 500)", book.place(0, 500), -1);
        checks.same("stays(0)", book.stays(0), 0);
        checks.same("onStage(500)", book.onStage(500), 2);
        checks.answers(Scenes.WALK.then(b -> {
            b.shift(0, 20, 3);
            b.strike(3);
        }), "a SHIFT: track(0, 20)", b -> b.track(0, 20), 1);
        doc.says("; its number is not used again");
        checks.same("enter(0, 0, 0, 0)", book.enter(0, 0, 0, 0), 4);
        checks.answers(Scenes.WALK.then(b -> b.strike(2)), "the latest one: leave(0, 30)", b -> b.leave(0, 30), 3);
        doc.says(", and it counts among the 40.");
        checks.answers(ALL_BUT_ONE_STRUCK, "count(2)", b -> b.count(2), 40);
        checks.answers(ALL_BUT_ONE_STRUCK, "count(3)", b -> b.count(3), 39);
        checks.refuses(ALL_BUT_ONE_STRUCK, "shift(0, 0, 1)", b -> b.shift(0, 0, 1), Checks.STATE);
        doc.says("- `cue`: the cue");
        checks.answers(Scenes.WALK.then(b -> b.strike(1)), "cue(0, 0)", b -> b.cue(0, 0), 0);
        checks.refuses(Scenes.WALK.then(b -> b.strike(1)), "cue(1, 0)", b -> b.cue(1, 0), Checks.INDEX);
        doc.says("Returns how many cues of its puppet are left.");
        checks.answers(Scenes.FULL, "the last cue of the full book: strike(39)", b -> b.strike(39), 4);
        checks.answers(Scenes.FORTY_CUES, "of 40: strike(1)", b -> b.strike(1), 39);
        checks.answers(ALL_BUT_ONE_STRUCK, "of 1: strike(0)", b -> b.strike(0), 0);
    }

    private void strikeRefused() {
        doc.says("Throws `IndexOutOfBoundsException` if there is no such cue");
        checks.refusesEach(Scenes.WALK, "strike(#)", Checks.outside(0, 2), CueBook::strike, Checks.INDEX);
        checks.refusesEach(Scenes.FORTY_CUES, "strike(#)", Checks.outside(0, 39), CueBook::strike, Checks.INDEX);
        checks.refuses(Scenes.EMPTY, "strike(0)", b -> b.strike(0), Checks.INDEX);
        doc.says(", or it was struck out");
        checks.refuses(Scenes.WALK.then(b -> b.strike(1)), "once more: strike(1)", b -> b.strike(1), Checks.INDEX);
        checks.refuses(ALL_BUT_ONE_STRUCK, "strike(39)", b -> b.strike(39), Checks.INDEX);
        doc.says("Throws `IllegalStateException` if another cue would not be right without it");
        checks.refuses(Scenes.WALK, "the ENTER: strike(0)", b -> b.strike(0), Checks.STATE);
        checks.refuses(Scenes.WALK.then(b -> b.enter(0, 30, 5, 0)), "the LEAVE ahead of another ENTER: strike(2)",
                b -> b.strike(2), Checks.STATE);
        Checks.Scene ways = b -> {
            b.addPuppet(1, 1);
            b.enter(0, 0, 0, 0);
            b.move(0, 0, 5);
            b.move(0, 5, 2);
            b.move(0, 8, 2);
            b.move(0, 8, 9);
            b.leave(0, 15);
        };
        checks.answersEach(ways, "the other ways are no longer: strike(#)", new int[] {1, 3, 4, 5},
                CueBook::strike, 5);
        checks.refuses(ways, "the next MOVE would be under way at the one behind it: strike(2)",
                b -> b.strike(2), Checks.STATE);
        checks.answers(ways.then(b -> b.strike(3)), "there is none behind it any more: strike(2)",
                b -> b.strike(2), 4);
        checks.refuses(ways.then(b -> {
            b.strike(3);
            b.strike(2);
        }), "the next MOVE would be under way at the LEAVE: strike(1)", b -> b.strike(1), Checks.STATE);
        Checks.Scene late = b -> {
            b.addPuppet(1, 1);
            b.enter(0, 0, 0, 0);
            b.move(0, 500, 15);
            b.move(0, 995, 19);
        };
        checks.refuses(late, "the next MOVE would end behind 999: strike(1)", b -> b.strike(1), Checks.STATE);
        checks.answers(late, "strike(2)", b -> b.strike(2), 2);
    }

    private void count() {
        doc.section("Promise 9: count");
        Checks.Scene some = Scenes.WALK.then(b -> {
            b.strike(1);
            Checks.outcome(b, c -> c.strike(1));
            Checks.outcome(b, c -> c.enter(0, 10, 0, 0));
        });
        doc.says("- `what`: 0 puppets");
        counted(0, 0, some, 2, 8);
        doc.says(", 1 players");
        counted(1, 0, some, 1, 5);
        doc.says(", 2 cues that were written");
        counted(2, 0, some, 3, 40);
        checks.answers(ALL_BUT_ONE_STRUCK, "count(2)", b -> b.count(2), 40);
        doc.says(", 3 of these those that were struck out");
        counted(3, 0, some, 1, 0);
        checks.answers(ALL_BUT_ONE_STRUCK, "count(3)", b -> b.count(3), 39);
        checks.answers(ALL_BUT_ONE_STRUCK.then(b -> b.strike(0)), "count(3)", b -> b.count(3), 40);
        doc.says("Returns how many there are.");
        CueBook book = new CueBook();
        book.addPuppet(1, 1);
        book.enter(0, 0, 0, 0);
        for (int i = 1; i < 40; i++) {
            book.shift(0, i, 0);
            if (i % 2 == 0) book.strike(i);
            checks.same("count(2)", book.count(2), i + 1);
            checks.same("count(3)", book.count(3), i / 2);
        }
        doc.says("Throws `IndexOutOfBoundsException` if what is not 0 to 3");
        checks.refusesEach(Scenes.WALK, "count(#)", Checks.outside(0, 3), CueBook::count, Checks.INDEX);
        checks.refusesEach(Scenes.EMPTY, "count(#)", Checks.outside(0, 3), CueBook::count, Checks.INDEX);
    }

    /** Of the empty book, of some book, and of the full one. */
    private void counted(int what, int ofEmpty, Checks.Scene some, int ofSome, int ofFull) {
        checks.answers(Scenes.EMPTY, "of the empty book: count(" + what + ")", b -> b.count(what), ofEmpty);
        checks.answers(some, "count(" + what + ")", b -> b.count(what), ofSome);
        checks.answers(Scenes.FULL, "of the full book: count(" + what + ")", b -> b.count(what), ofFull);
    }

    private void cue() {
        doc.section("Promise 10: cue");
        Checks.Scene scene = b -> {
            b.addPuppet(1, 1);
            b.addPuppet(1, 1);
            b.enter(1, 0, 19, 3);
            b.move(1, 1, 0);
            b.shift(1, 998, 2);
            b.leave(1, 999);
            b.enter(0, 999, 0, 0);
        };
        doc.says("- `cue`: a cue");
        checks.answersEach(Scenes.FULL, "the first and the last of the full book: cue(#, 1)", new int[] {0, 39},
                (b, x) -> b.cue(x, 1) - 7 * x / 39, 0);
        doc.says("- `what`: 0 its kind");
        told(scene, 0, 0, 1, 2, 3, 0);
        doc.says(", 1 its puppet");
        told(scene, 1, 1, 1, 1, 1, 0);
        doc.says(", 2 its beat");
        told(scene, 2, 0, 1, 998, 999, 999);
        doc.says(", 3 its place (of an ENTER or MOVE, else -1)");
        told(scene, 3, 19, 0, -1, -1, 0);
        doc.says(", 4 its track (of an ENTER or SHIFT, else -1)");
        told(scene, 4, 3, -1, 2, -1, 0);
        doc.says("Returns this.");
        Checks.Scene struck = scene.then(b -> b.strike(1));
        told(struck, 2, 0, null, 998, 999, 999);
        doc.says("Throws `IndexOutOfBoundsException` if there is no such cue");
        checks.refusesEach(scene, "cue(#, 0)", Checks.outside(0, 4), (b, x) -> b.cue(x, 0), Checks.INDEX);
        checks.refusesEach(Scenes.FULL, "cue(#, 0)", Checks.outside(0, 39), (b, x) -> b.cue(x, 0), Checks.INDEX);
        doc.says(", or it was struck out");
        checks.refusesEach(struck, "cue(1, #)", new int[] {0, 1, 2, 3, 4}, (b, x) -> b.cue(1, x), Checks.INDEX);
        doc.says(", or what is not 0 to 4");
        checks.refusesEach(scene, "cue(0, #)", Checks.outside(0, 4), (b, x) -> b.cue(0, x), Checks.INDEX);
    }

    /** What cue() tells of each cue, from 0 on; null for one that was struck out. */
    private void told(Checks.Scene scene, int what, Integer... due) {
        for (int i = 0; i < due.length; i++) {
            int cue = i;
            if (due[i] != null) {
                checks.answers(scene, "cue(" + cue + ", " + what + ")", b -> b.cue(cue, what), due[i]);
            }
        }
    }
}
