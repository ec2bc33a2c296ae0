import java.util.ArrayList;
import java.util.List;

/** "What it is", and "Terms" as far as they are of the stage, of puppets, players and cues. */
final class TermsTest {
    private static final int CALLS = 512;

    private final Checks checks = new Checks();
    private final Document doc = new Document(checks);

    public static void main(String[] args) {
        TermsTest test = new TermsTest();
        test.whatItIs();
        test.calls();
        test.doc.section("Terms", "Puppets hang", "Players and puppets.");
        test.story();
        test.places();
        test.tracks();
        test.beats();
        test.puppets();
        test.players();
        test.cues();
        test.kinds();
        test.orderOfBeats();
        test.orderOfNumbers();
        test.onStageOrNot();
        test.endOfAMove();
        test.latestEnd();
        test.latestEnter();
        test.rightOnly();
        test.inTheWay();
        test.crossing();
        test.doc.end();
        test.checks.report("TermsTest");
    }

    private void whatItIs() {
        doc.section("What it is");
        doc.says("A cue book for a puppet theatre.");
        checks.answers(b -> {
            b.addPuppet(1, 1);
            b.addPlayer(1, 0);
            b.enter(0, 0, 0, 0);
        }, "one puppet, one player, one cue: hands(0, 0)", b -> b.hands(0, 0), 1);
    }

    private void calls() {
        doc.says("An object is used for at most 512 calls after it has been made; what later calls answer is free.");
        int callsOfWalk = 6;
        Checks.Call[] fillers = {CueBook::digest, CueBook::clashes, CueBook::uncast, CueBook::worst,
            b -> b.hands(0, 20), b -> b.clash(0, 1), b -> b.enter(0, 10, 0, 0), b -> b.strike(0),
            b -> b.addPuppet(0, 0), b -> b.place(2, 0)};
        for (int i = 0; i < fillers.length; i++) {
            Checks.Call filler = fillers[i];
            CueBook due = new CueBook();
            Scenes.WALK.set(due);
            CueBook book = new CueBook();
            Scenes.WALK.set(book);
            for (int call = callsOfWalk + 1; call < CALLS; call++) {
                Checks.outcome(book, filler);
            }
            checks.same("digest() as the 512th call, behind filler " + i,
                    Checks.outcome(book, CueBook::digest), Checks.outcome(due, CueBook::digest));
        }
        CueBook book = new CueBook();
        Scenes.FORTY_CUES.set(book);
        int made = 42;
        for (int cue = 0; made < CALLS; made++) {
            if (made > 42 && (made - 42) % 20 == 0) cue++;
            checks.same("note(" + cue + ", 1) as call " + (made + 1), book.note(cue, 1), 1 + (made - 42) % 20);
        }
    }

    private void story() {
        doc.says("Puppets hang on strings, players have two hands, and cues let puppets move, come in, cross,"
                + " and be passed from hand to hand; the book checks whether players can do it all, finds hands,"
                + " tells where each puppet is at each beat, and keeps what rehearsals showed.");
        Checks.Scene story = b -> {
            b.addPuppet(3, 1);
            b.addPuppet(4, 1);
            b.addPlayer(7, 0);
            b.enter(0, 10, 5, 1);
            b.move(0, 12, 9);
            b.leave(0, 16);
            b.enter(1, 11, 9, 1);
            b.move(1, 13, 6);
            b.note(1, 2);
        };
        checks.answers(story, "place(0, 14)", b -> b.place(0, 14), 7);
        checks.answers(story, "place(1, 15)", b -> b.place(1, 15), 7);
        checks.answers(story, "clash(0, 1)", b -> b.clash(0, 1), 14);
        checks.answers(story, "hands(0, 13)", b -> b.hands(0, 13), 1);
        checks.answers(story, "uncast()", CueBook::uncast, 1);
        checks.answers(story, "mean(1)", b -> b.mean(1), 2.0);
    }

    private void places() {
        doc.says("The stage. It has 20 places in a row, 0 to 19");
        int[] ends = {0, 19};
        checks.answersEach(Scenes.ONE_PUPPET, "enter(0, 0, #, 0)", ends, (b, x) -> b.enter(0, 0, x, 0), 0);
        checks.answersEach(Scenes.EMPTY, "addPlayer(1, #)", ends, (b, x) -> b.addPlayer(1, x), 0);
        checks.refusesEach(Scenes.ONE_PUPPET, "enter(0, 0, #, 0)", Checks.outside(0, 19),
                (b, x) -> b.enter(0, 0, x, 0), Checks.ARGUMENT);
        checks.refusesEach(Scenes.WALK, "move(0, 20, #)", Checks.outside(0, 19),
                (b, x) -> b.move(0, 20, x), Checks.ARGUMENT);
        Checks.Scene row = Scenes.ONE_PUPPET.then(b -> {
            b.enter(0, 0, 0, 0);
            b.move(0, 100, 19);
            b.move(0, 200, 0);
        });
        for (int i = 0; i <= 19; i++) {
            int place = i;
            checks.answers(row, "along the row: place(0, " + (100 + i) + ")", b -> b.place(0, 100 + place), place);
            checks.answers(row, "and back: place(0, " + (219 - i) + ")", b -> b.place(0, 219 - place), place);
        }
        checks.answers(row, "at its end: place(0, 120)", b -> b.place(0, 120), 19);
        checks.answers(row, "at its beginning: place(0, 220)", b -> b.place(0, 220), 0);
    }

    private void tracks() {
        doc.says(", and 4 tracks, 0 to 3, one behind the other.");
        for (int i = 0; i < 4; i++) {
            int track = i;
            checks.answers(Scenes.ONE_PUPPET.then(b -> b.enter(0, 0, 0, track)), "track(0, 0)",
                    b -> b.track(0, 0), track);
            checks.answers(Scenes.WALK.then(b -> b.shift(0, 20, track)), "track(0, 20)",
                    b -> b.track(0, 20), track);
        }
        checks.refusesEach(Scenes.ONE_PUPPET, "enter(0, 0, 0, #)", Checks.outside(0, 3),
                (b, x) -> b.enter(0, 0, 0, x), Checks.ARGUMENT);
        checks.refusesEach(Scenes.WALK, "shift(0, 20, #)", Checks.outside(0, 3),
                (b, x) -> b.shift(0, 20, x), Checks.ARGUMENT);
        checks.answers(b -> {
            for (int i = 0; i < 4; i++) {
                b.addPuppet(1, 1);
                b.enter(i, 0, 7, i);
            }
        }, "four at one place, one behind the other: clashes()", CueBook::clashes, 0);
    }

    private void beats() {
        doc.says("Time is counted in beats, 0 to 999.");
        Checks.Scene ever = Scenes.ONE_PUPPET.then(b -> {
            b.addPlayer(1, 0);
            b.enter(0, 0, 0, 0);
        });
        int[] ends = {0, 999};
        int[] outside = Checks.outside(0, 999);
        checks.answersEach(Scenes.ONE_PUPPET, "enter(0, #, 0, 0)", ends, (b, x) -> b.enter(0, x, 0, 0), 0);
        checks.answersEach(ever, "move(0, #, 0)", ends, (b, x) -> b.move(0, x, 0), 1);
        checks.answersEach(ever, "shift(0, #, 1)", ends, (b, x) -> b.shift(0, x, 1), 1);
        checks.answersEach(ever, "leave(0, #)", new int[] {1, 999}, (b, x) -> b.leave(0, x), 1);
        checks.answersEach(ever, "place(0, #)", ends, (b, x) -> b.place(0, x), 0);
        checks.answersEach(ever, "track(0, #)", ends, (b, x) -> b.track(0, x), 0);
        checks.answersEach(ever, "onStage(#)", ends, CueBook::onStage, 1);
        checks.answersEach(ever, "hands(0, #)", ends, (b, x) -> b.hands(0, x), 1);
        checks.answers(ever, "beats(0)", b -> b.beats(0), 1000);
        checks.refusesEach(Scenes.ONE_PUPPET, "enter(0, #, 0, 0)", outside,
                (b, x) -> b.enter(0, x, 0, 0), Checks.ARGUMENT);
        checks.refusesEach(ever, "move(0, #, 0)", outside, (b, x) -> b.move(0, x, 0), Checks.ARGUMENT);
        checks.refusesEach(ever, "shift(0, #, 1)", outside, (b, x) -> b.shift(0, x, 1), Checks.ARGUMENT);
        checks.refusesEach(ever, "leave(0, #)", outside, (b, x) -> b.leave(0, x), Checks.ARGUMENT);
        checks.refusesEach(ever, "place(0, #)", outside, (b, x) -> b.place(0, x), Checks.ARGUMENT);
        checks.refusesEach(ever, "track(0, #)", outside, (b, x) -> b.track(0, x), Checks.ARGUMENT);
        checks.refusesEach(ever, "onStage(#)", outside, CueBook::onStage, Checks.ARGUMENT);
        checks.refusesEach(ever, "hands(0, #)", outside, (b, x) -> b.hands(0, x), Checks.ARGUMENT);
    }

    private void puppets() {
        doc.says("Puppets. There are at most 8");
        checks.answers(Scenes.EIGHT_PUPPETS, "count(0)", b -> b.count(0), 8);
        checks.refuses(Scenes.EIGHT_PUPPETS, "a ninth", b -> b.addPuppet(1, 1), Checks.STATE);
        doc.says(", numbered from 0 in the order of their creation.");
        checks.answers(b -> {
            b.addPuppet(1, 1);
            b.addPuppet(5, 1);
            b.addPlayer(1, 0);
            b.enter(0, 0, 0, 0);
            b.enter(1, 0, 0, 0);
        }, "the first one is the light one: hands(0, 0)", b -> b.hands(0, 0), 1);
        checks.answers(b -> {
            Scenes.EIGHT_PUPPETS.set(b);
            b.enter(0, 0, 0, 0);
            b.enter(7, 0, 0, 0);
        }, "the first one and the last one: onStage(0)", b -> b.onStage(0), 1 + 128);
        doc.says("A puppet has a weight, 1 to 9");
        checks.answersEach(Scenes.EMPTY, "addPuppet(#, 1)", new int[] {1, 9}, (b, x) -> b.addPuppet(x, 1), 0);
        checks.refusesEach(Scenes.EMPTY, "addPuppet(#, 1)", Checks.outside(1, 9),
                (b, x) -> b.addPuppet(x, 1), Checks.ARGUMENT);
        doc.says(", and needs 1 or 2 hands of one player while it is on stage.");
        checks.answersEach(Scenes.EMPTY, "addPuppet(1, #)", new int[] {1, 2}, (b, x) -> b.addPuppet(1, x), 0);
        checks.refusesEach(Scenes.EMPTY, "addPuppet(1, #)", Checks.outside(1, 2),
                (b, x) -> b.addPuppet(1, x), Checks.ARGUMENT);
        Checks.Scene halfAHand = b -> {
            b.addPuppet(1, 1);
            b.addPuppet(1, 2);
            b.addPlayer(20, 0);
            b.addPlayer(20, 0);
            b.enter(0, 0, 0, 0);
            b.enter(1, 50, 0, 1);
        };
        checks.answers(halfAHand, "not one hand of each of two players: hands(0, 50)", b -> b.hands(0, 50), 1);
        checks.answers(halfAHand, "not one hand of each of two players: hands(1, 50)", b -> b.hands(1, 50), 2);
        checks.answers(halfAHand, "not while it is not on stage: hands(1, 49)", b -> b.hands(1, 49), 0);
    }

    private void players() {
        doc.says("Players. There are at most 5");
        checks.answers(Scenes.FIVE_PLAYERS, "count(1)", b -> b.count(1), 5);
        checks.refuses(Scenes.FIVE_PLAYERS, "a sixth", b -> b.addPlayer(1, 0), Checks.STATE);
        doc.says(", numbered likewise.");
        Checks.Scene weakFirst = b -> {
            b.addPlayer(1, 0);
            b.addPlayer(2, 0);
            b.addPuppet(2, 1);
            b.enter(0, 0, 0, 0);
        };
        checks.answers(weakFirst, "the second one is the strong one: load(0)", b -> b.load(0), 0);
        checks.answers(weakFirst, "the second one is the strong one: load(1)", b -> b.load(1), 1000);
        doc.says("A player has two hands");
        checks.answers(holding(20, 1, 1), "one and one: uncast()", CueBook::uncast, 0);
        checks.answers(holding(20, 1, 1, 1), "one and one and one: uncast()", CueBook::uncast, 1);
        doc.says(", a strength, 1 to 20");
        checks.answersEach(Scenes.EMPTY, "addPlayer(#, 0)", new int[] {1, 20}, (b, x) -> b.addPlayer(x, 0), 0);
        checks.refusesEach(Scenes.EMPTY, "addPlayer(#, 0)", Checks.outside(1, 20),
                (b, x) -> b.addPlayer(x, 0), Checks.ARGUMENT);
        checks.answers(holding(1, 1), "strength 1 for weight 1: uncast()", CueBook::uncast, 0);
        checks.answers(holding(1, 2), "strength 1 for weight 2: uncast()", CueBook::uncast, 1);
        checks.answers(holding(18, 9, 9), "strength 18 for weights 9 and 9: uncast()", CueBook::uncast, 0);
        checks.answers(holding(20, 9, 9), "strength 20 for weights 9 and 9: uncast()", CueBook::uncast, 0);
        checks.answers(holding(17, 9, 9), "strength 17 for weights 9 and 9: uncast()", CueBook::uncast, 1);
        doc.says(", and a place where it is at first, 0 to 19");
        for (int home : new int[] {0, 19}) {
            for (int place : new int[] {home, home == 0 ? 1 : 18, 19 - home}) {
                checks.answers(comingIn(home, place, 0), "at first at " + home + ", in at beat 0 at " + place
                        + ": uncast()", CueBook::uncast, place == home ? 0 : 1);
            }
        }
        checks.refusesEach(Scenes.EMPTY, "addPlayer(1, #)", Checks.outside(0, 19),
                (b, x) -> b.addPlayer(1, x), Checks.ARGUMENT);
        doc.says("; in each beat it can walk one place.");
        for (int beat : new int[] {1, 9, 19}) {
            checks.answers(comingIn(0, beat, beat), beat + " places in " + beat + " beats: uncast()",
                    CueBook::uncast, 0);
            checks.answers(comingIn(0, beat, beat - 1), beat + " places in a beat less: uncast()",
                    CueBook::uncast, 1);
            checks.answers(comingIn(19, 19 - beat, beat), beat + " places down in as many beats: uncast()",
                    CueBook::uncast, 0);
            checks.answers(comingIn(19, 19 - beat, beat - 1), beat + " places down in a beat less: uncast()",
                    CueBook::uncast, 1);
        }
    }

    /** One player, and puppets of one hand each that are on stage all the time at its place. */
    private static Checks.Scene holding(int strength, int... weights) {
        return b -> {
            b.addPlayer(strength, 0);
            for (int i = 0; i < weights.length; i++) {
                b.addPuppet(weights[i], 1);
                b.enter(i, 0, 0, 0);
            }
        };
    }

    private static Checks.Scene comingIn(int home, int place, int beat) {
        return b -> {
            b.addPlayer(1, home);
            b.addPuppet(1, 1);
            b.enter(0, beat, place, 0);
        };
    }

    private void cues() {
        doc.says("Cues. There are at most 40");
        checks.answers(Scenes.FORTY_CUES, "count(2)", b -> b.count(2), 40);
        checks.refuses(Scenes.FORTY_CUES, "a 41st", b -> b.enter(1, 0, 0, 0), Checks.STATE);
        doc.says(", numbered in the order in which they were written.");
        CueBook book = new CueBook();
        book.addPuppet(1, 1);
        book.addPuppet(1, 1);
        for (int i = 0; i < 40; i++) {
            int beat = 500 - 10 * (i / 2);
            checks.same("cue " + i, i < 2 ? book.enter(i, 0, 0, 0) : book.shift(i % 2, beat, 1), i);
            Checks.outcome(book, b -> b.enter(0, 0, 0, 0));
        }
        checks.same("cue(39, 2)", book.cue(39, 2), 310);
        doc.says("A cue is of one puppet and of one of these kinds:");
        int[][] due = {{0, 0, 0}, {1, 1, 1}, {2, 2, 0}, {3, 3, 1}, {4, 1, 0}};
        Checks.Scene scene = b -> {
            b.addPuppet(1, 1);
            b.addPuppet(1, 1);
            b.enter(1, 0, 0, 0);
            b.move(1, 5, 1);
            b.shift(1, 10, 1);
            b.leave(1, 15);
            b.enter(0, 20, 2, 2);
        };
        for (int i = 0; i < 5; i++) {
            int cue = i;
            checks.answers(scene, "cue(" + i + ", 0)", b -> b.cue(cue, 0), i % 4);
            checks.answers(scene, "cue(" + i + ", 1)", b -> b.cue(cue, 1), i < 4 ? 1 : 0);
        }
    }

    private void kinds() {
        Checks.Scene scene = b -> {
            b.addPuppet(1, 1);
            b.enter(0, 4, 10, 2);
            b.move(0, 6, 7);
            b.move(0, 11, 8);
            b.shift(0, 13, 0);
            b.leave(0, 16);
        };
        doc.says("0 ENTER: at a beat, at a place, on a track: the puppet is on stage from this beat on.");
        row(scene, 0, "place", new int[] {-1, -1, -1, -1, 10, 10}, (b, t) -> b.place(0, t));
        row(scene, 0, "track", new int[] {-1, -1, -1, -1, 2, 2}, (b, t) -> b.track(0, t));
        row(scene, 0, "onStage", new int[] {0, 0, 0, 0, 1, 1}, CueBook::onStage);
        doc.says("1 MOVE: from a beat on, to a place, on the same track, by one place in each beat: it is at this"
                + " place so many beats later as the difference of both places is; in the beat itself it is still"
                + " where it was.");
        row(scene, 5, "place", new int[] {10, 10, 9, 8, 7, 7, 7, 8, 8}, (b, t) -> b.place(0, t));
        row(scene, 5, "track", new int[] {2, 2, 2, 2, 2, 2, 2, 2}, (b, t) -> b.track(0, t));
        doc.says("2 SHIFT: at a beat, to another track: it is on it from this beat on.");
        row(scene, 12, "track", new int[] {2, 0, 0, 0}, (b, t) -> b.track(0, t));
        row(scene, 12, "place", new int[] {8, 8, 8, 8}, (b, t) -> b.place(0, t));
        doc.says("3 LEAVE: at a beat: it is on stage no more from this beat on.");
        row(scene, 14, "place", new int[] {8, 8, -1, -1}, (b, t) -> b.place(0, t));
        row(scene, 14, "track", new int[] {0, 0, -1, -1}, (b, t) -> b.track(0, t));
        row(scene, 14, "onStage", new int[] {1, 1, 0, 0}, CueBook::onStage);
        row(scene, 998, "onStage", new int[] {0, 0}, CueBook::onStage);
    }

    private void row(Checks.Scene scene, int from, String what, int[] due, Checks.CallWith call) {
        for (int i = 0; i < due.length; i++) {
            int beat = from + i;
            checks.answers(scene, what + " at beat " + beat, b -> call.on(b, beat), due[i]);
        }
    }

    private void orderOfBeats() {
        doc.says("The cues of a puppet are in the order of their beats");
        Checks.Scene backwards = b -> {
            b.addPuppet(1, 1);
            b.enter(0, 10, 0, 0);
            b.leave(0, 50);
            b.shift(0, 40, 3);
            b.move(0, 30, 2);
            b.shift(0, 20, 1);
            b.move(0, 12, 5);
        };
        row(backwards, 10, "place", new int[] {0, 0, 0, 1, 2, 3, 4, 5, 5}, (b, t) -> b.place(0, t));
        row(backwards, 29, "place", new int[] {5, 5, 4, 3, 2, 2}, (b, t) -> b.place(0, t));
        row(backwards, 19, "track", new int[] {0, 1, 1}, (b, t) -> b.track(0, t));
        row(backwards, 39, "track", new int[] {1, 3, 3}, (b, t) -> b.track(0, t));
        row(backwards, 49, "track", new int[] {3, -1}, (b, t) -> b.track(0, t));
        checks.answers(backwards, "a MOVE in between that ends at the next one: move(0, 28, 7)",
                b -> b.move(0, 28, 7), 6);
        checks.refuses(backwards, "a MOVE in between that ends behind the next one: move(0, 28, 8)",
                b -> b.move(0, 28, 8), Checks.STATE);
    }

    private void orderOfNumbers() {
        doc.says("; of the same beat in that of their numbers.");
        Checks.Scene in = b -> {
            b.addPuppet(1, 1);
            b.enter(0, 10, 5, 1);
        };
        checks.answers(in.then(b -> {
            b.shift(0, 20, 3);
            b.shift(0, 20, 0);
            b.shift(0, 20, 2);
        }), "three SHIFTs, the last one tells: track(0, 20)", b -> b.track(0, 20), 2);
        checks.answers(in.then(b -> {
            b.shift(0, 20, 3);
            b.shift(0, 20, 0);
            b.shift(0, 20, 2);
            b.strike(3);
        }), "and without it the one ahead: track(0, 20)", b -> b.track(0, 20), 0);
        checks.answers(in.then(b -> b.shift(0, 20, 3)), "a SHIFT, then a MOVE: move(0, 20, 7)",
                b -> b.move(0, 20, 7), 2);
        checks.refuses(in.then(b -> b.move(0, 20, 7)), "a MOVE, then a SHIFT: shift(0, 20, 3)",
                b -> b.shift(0, 20, 3), Checks.STATE);
        checks.refuses(in.then(b -> b.move(0, 20, 7)), "a MOVE, then a MOVE: move(0, 20, 5)",
                b -> b.move(0, 20, 5), Checks.STATE);
        checks.answers(in.then(b -> b.move(0, 20, 5)), "a MOVE to where it is, then a SHIFT: shift(0, 20, 3)",
                b -> b.shift(0, 20, 3), 2);
        checks.answers(in.then(b -> b.move(0, 20, 5)), "a MOVE to where it is, then a MOVE: move(0, 20, 7)",
                b -> b.move(0, 20, 7), 2);
        checks.answers(in.then(b -> {
            b.shift(0, 10, 3);
            b.move(0, 10, 6);
        }), "all at the beat of the ENTER: place(0, 11)", b -> 10 * b.place(0, 11) + b.track(0, 10), 63);
        Checks.Scene out = in.then(b -> b.leave(0, 20));
        checks.answers(out, "a LEAVE, then an ENTER: enter(0, 20, 0, 0)", b -> b.enter(0, 20, 0, 0), 2);
        checks.refuses(out, "a LEAVE, then a SHIFT: shift(0, 20, 0)", b -> b.shift(0, 20, 0), Checks.STATE);
        checks.refuses(out, "a LEAVE, then a MOVE: move(0, 20, 5)", b -> b.move(0, 20, 5), Checks.STATE);
        Checks.Scene back = out.then(b -> b.enter(0, 20, 0, 0));
        checks.answers(back, "place(0, 20)", b -> b.place(0, 20), 0);
        checks.answers(back, "a LEAVE, an ENTER, then a MOVE: move(0, 20, 1)", b -> b.move(0, 20, 1), 3);
        checks.refuses(back, "a LEAVE, an ENTER, then a LEAVE: leave(0, 20)", b -> b.leave(0, 20), Checks.STATE);
        checks.refuses(back, "a LEAVE, an ENTER, then an ENTER: enter(0, 20, 0, 0)",
                b -> b.enter(0, 20, 0, 0), Checks.STATE);
        checks.answers(back.then(b -> {
            b.shift(0, 20, 3);
            b.strike(3);
            b.strike(2);
        }), "the ENTER is written anew with a higher number: enter(0, 20, 7, 1)", b -> b.enter(0, 20, 7, 1), 4);
    }

    private void onStageOrNot() {
        doc.says("A cue is right if: an ENTER comes when the puppet is not on stage, the others when it is;");
        for (int beat : new int[] {0, 9, 30, 999}) {
            checks.refuses(Scenes.WALK, "not on stage: move(0, " + beat + ", 5)",
                    b -> b.move(0, beat, 5), Checks.STATE);
            checks.refuses(Scenes.WALK, "not on stage: shift(0, " + beat + ", 0)",
                    b -> b.shift(0, beat, 0), Checks.STATE);
            checks.refuses(Scenes.WALK, "not on stage: leave(0, " + beat + ")",
                    b -> b.leave(0, beat), Checks.STATE);
            checks.refuses(Scenes.WALK, "never on stage: shift(1, " + beat + ", 0)",
                    b -> b.shift(1, beat, 0), Checks.STATE);
        }
        checks.answersEach(Scenes.WALK, "on stage: shift(0, #, 0)", new int[] {10, 11, 16, 29},
                (b, x) -> b.shift(0, x, 0), 3);
        checks.refusesEach(Scenes.WALK, "on stage: enter(0, #, 0, 0)", new int[] {10, 11, 16, 29},
                (b, x) -> b.enter(0, x, 0, 0), Checks.STATE);
        checks.answersEach(Scenes.WALK, "not on stage: enter(0, #, 0, 0)", new int[] {30, 31, 999},
                (b, x) -> b.enter(0, x, 0, 0), 3);
        checks.refusesEach(Scenes.WALK, "another ENTER behind it: enter(0, #, 0, 0)", new int[] {0, 9},
                (b, x) -> b.enter(0, x, 0, 0), Checks.STATE);
        for (int kind = 1; kind <= 3; kind++) {
            Checks.Scene two = enterAnd(kind);
            checks.refuses(two, "kind " + kind + " behind it: leave(0, 15)", b -> b.leave(0, 15), Checks.STATE);
            checks.refuses(two, "kind " + kind + " needs it: strike(0)", b -> b.strike(0), Checks.STATE);
            checks.answers(two, "nothing needs it: strike(1)", b -> b.strike(1), 1);
            checks.answers(two.then(b -> b.strike(1)), "nothing needs it any more: strike(0)",
                    b -> b.strike(0), 0);
        }
        Checks.Scene twice = Scenes.WALK.then(b -> b.enter(0, 30, 5, 0));
        checks.refuses(twice, "an ENTER needs the LEAVE: strike(2)", b -> b.strike(2), Checks.STATE);
        checks.answers(twice, "strike(3)", b -> b.strike(3), 3);
        checks.answers(twice.then(b -> b.strike(3)), "nothing needs it any more: strike(2)",
                b -> b.strike(2), 2);
    }

    /** An ENTER at beat 10, and one other cue at beat 20. */
    private static Checks.Scene enterAnd(int kind) {
        return b -> {
            b.addPuppet(1, 1);
            b.enter(0, 10, 0, 0);
            if (kind == 1) b.move(0, 20, 3);
            if (kind == 2) b.shift(0, 20, 3);
            if (kind == 3) b.leave(0, 20);
        };
    }

    private void endOfAMove() {
        doc.says("a MOVE, SHIFT or LEAVE does not begin ahead of the end of a MOVE of the puppet"
                + " (the beat at which it is at the place);");
        Checks.Scene moving = Scenes.ONE_PUPPET.then(b -> {
            b.enter(0, 10, 5, 1);
            b.move(0, 12, 9);
        });
        for (int beat : new int[] {12, 13, 14, 15}) {
            checks.refuses(moving, "ahead: move(0, " + beat + ", 9)", b -> b.move(0, beat, 9), Checks.STATE);
            checks.refuses(moving, "ahead: shift(0, " + beat + ", 0)", b -> b.shift(0, beat, 0), Checks.STATE);
            checks.refuses(moving, "ahead: leave(0, " + beat + ")", b -> b.leave(0, beat), Checks.STATE);
        }
        for (int beat : new int[] {16, 17}) {
            checks.answers(moving, "move(0, " + beat + ", 0)", b -> b.move(0, beat, 0), 2);
            checks.answers(moving, "shift(0, " + beat + ", 0)", b -> b.shift(0, beat, 0), 2);
            checks.answers(moving, "leave(0, " + beat + ")", b -> b.leave(0, beat), 2);
        }
        for (int kind = 1; kind <= 3; kind++) {
            Checks.Scene two = enterAnd(kind);
            checks.answers(two, "ends at kind " + kind + ": move(0, 17, 3)", b -> b.move(0, 17, 3), 2);
            checks.refuses(two, "ends behind kind " + kind + ": move(0, 18, 3)", b -> b.move(0, 18, 3),
                    Checks.STATE);
        }
        for (int kind = 1; kind <= 3; kind++) {
            Checks.Scene waiting = waitingBehindAMove(kind);
            checks.refuses(waiting, "the MOVE would end behind kind " + kind + ": move(0, 15, 4)",
                    b -> b.move(0, 15, 4), Checks.STATE);
            checks.answers(waiting, "the MOVE turns: move(0, 15, 7)", b -> b.move(0, 15, 7), 4);
            checks.refuses(waiting, "kind " + kind + " needs the MOVE ahead of the MOVE: strike(1)",
                    b -> b.strike(1), Checks.STATE);
            checks.answers(waiting.then(b -> b.strike(3)), "nothing needs it any more: strike(1)",
                    b -> b.strike(1), 2);
        }
        Checks.Scene again = moving.then(b -> {
            b.leave(0, 16);
            b.enter(0, 16, 0, 0);
        });
        checks.answers(again, "a MOVE of an earlier stay: move(0, 16, 2)", b -> b.move(0, 16, 2), 4);
    }

    /** It is at place 5 from 15 on, at 6 from 21 on, and has another cue there: without delay. */
    private static Checks.Scene waitingBehindAMove(int kind) {
        return b -> {
            b.addPuppet(1, 1);
            b.enter(0, 0, 0, 0);
            b.move(0, 10, 5);
            b.move(0, 20, 6);
            if (kind == 1) b.move(0, 21, 6);
            if (kind == 2) b.shift(0, 21, 3);
            if (kind == 3) b.leave(0, 21);
        };
    }

    private void latestEnd() {
        doc.says("a MOVE ends at beat 999 at the latest;");
        Checks.Scene late = Scenes.ONE_PUPPET.then(b -> b.enter(0, 900, 0, 0));
        for (int way : new int[] {0, 1, 2, 19}) {
            checks.answers(late, "ends at 999: move(0, " + (999 - way) + ", " + way + ")",
                    b -> b.move(0, 999 - way, way), 1);
        }
        for (int way : new int[] {1, 2, 19}) {
            checks.refuses(late, "ends at 1000: move(0, " + (1000 - way) + ", " + way + ")",
                    b -> b.move(0, 1000 - way, way), Checks.STATE);
        }
        checks.refuses(late, "ends at 1018: move(0, 999, 19)", b -> b.move(0, 999, 19), Checks.STATE);
        Checks.Scene latest = late.then(b -> b.move(0, 990, 9));
        checks.answers(latest, "place(0, 998)", b -> b.place(0, 998), 8);
        checks.answers(latest, "place(0, 999)", b -> b.place(0, 999), 9);
        checks.answers(latest, "at its end: leave(0, 999)", b -> b.leave(0, 999), 2);
        checks.answers(latest, "the MOVE behind it ends at 999: move(0, 950, 18)", b -> b.move(0, 950, 18), 2);
        checks.refuses(latest, "the MOVE behind it would end at 1000: move(0, 950, 19)",
                b -> b.move(0, 950, 19), Checks.STATE);
        Checks.Scene needed = late.then(b -> {
            b.move(0, 920, 15);
            b.move(0, 995, 19);
        });
        checks.refuses(needed, "without it the MOVE would end at 1014: strike(1)", b -> b.strike(1), Checks.STATE);
        Checks.Scene justNeeded = late.then(b -> {
            b.move(0, 920, 1);
            b.move(0, 990, 10);
        });
        checks.refuses(justNeeded, "without it the MOVE would end at 1000: strike(1)",
                b -> b.strike(1), Checks.STATE);
        Checks.Scene notNeeded = late.then(b -> {
            b.move(0, 920, 1);
            b.move(0, 990, 9);
        });
        checks.answers(notNeeded, "without it the MOVE ends at 999: strike(1)", b -> b.strike(1), 2);
    }

    /**
     * A cue that is written or struck out never breaks this for another cue: a new ENTER of the
     * LEAVE's beat comes behind it, and without an ENTER the latest one is an earlier one.
     */
    private void latestEnter() {
        doc.says("a LEAVE comes at a later beat than the latest ENTER of the puppet.");
        Checks.Scene in = Scenes.ONE_PUPPET.then(b -> b.enter(0, 10, 5, 1));
        checks.refuses(in, "at its beat: leave(0, 10)", b -> b.leave(0, 10), Checks.STATE);
        checks.answers(in, "a beat later: leave(0, 11)", b -> b.leave(0, 11), 1);
        checks.refuses(in.then(b -> b.shift(0, 10, 2)), "with a SHIFT in between: leave(0, 10)",
                b -> b.leave(0, 10), Checks.STATE);
        Checks.Scene last = Scenes.ONE_PUPPET.then(b -> b.enter(0, 998, 5, 1));
        checks.answers(last, "the last beats: leave(0, 999)", b -> b.leave(0, 999), 1);
        checks.refuses(Scenes.ONE_PUPPET.then(b -> b.enter(0, 999, 5, 1)), "the last beat: leave(0, 999)",
                b -> b.leave(0, 999), Checks.STATE);
        Checks.Scene twice = in.then(b -> {
            b.leave(0, 20);
            b.enter(0, 40, 0, 0);
        });
        checks.refuses(twice, "at the beat of the second: leave(0, 40)", b -> b.leave(0, 40), Checks.STATE);
        checks.answers(twice, "a beat later than the second: leave(0, 41)", b -> b.leave(0, 41), 3);
        checks.answers(twice, "an ENTER behind it is not ahead of it: cue(1, 2)", b -> b.cue(1, 2), 20);
        Checks.Scene close = in.then(b -> {
            b.leave(0, 11);
            b.enter(0, 11, 0, 0);
            b.leave(0, 12);
        });
        checks.answers(close, "stays of one beat each: stays(0)", b -> b.stays(0), 2);
        checks.refuses(close, "strike(0)", b -> b.strike(0), Checks.STATE);
        checks.refuses(close, "strike(1)", b -> b.strike(1), Checks.STATE);
        checks.refuses(close, "strike(2)", b -> b.strike(2), Checks.STATE);
        checks.answers(close, "strike(3)", b -> b.strike(3), 3);
        checks.answers(close.then(b -> {
            b.strike(3);
            b.strike(2);
            b.strike(1);
        }), "the ENTER of 11 struck out, too: leave(0, 11)", b -> b.leave(0, 11), 4);
    }

    private void rightOnly() {
        doc.says("A cue that is not right cannot be written, nor can one be struck out that another one needs"
                + " to be right.");
        for (int first : new int[] {0, 997}) {
            List<Checks.Call> calls = new ArrayList<>();
            List<PlainBook.Call> plainCalls = new ArrayList<>();
            smallWorld(first, calls, plainCalls);
            followAll(calls, plainCalls, new ArrayList<>());
        }
    }

    /** All cues of a puppet at three beats and two places, and all strikes of the first four. */
    private static void smallWorld(int first, List<Checks.Call> calls, List<PlainBook.Call> plainCalls) {
        for (int beat = first; beat < first + 3; beat++) {
            int t = beat;
            calls.add(b -> b.enter(0, t, 1, 0));
            plainCalls.add(b -> b.enter(0, t, 1, 0));
            calls.add(b -> b.shift(0, t, 3));
            plainCalls.add(b -> b.shift(0, t, 3));
            calls.add(b -> b.leave(0, t));
            plainCalls.add(b -> b.leave(0, t));
            for (int place = 1; place <= 2; place++) {
                int p = place;
                calls.add(b -> b.move(0, t, p));
                plainCalls.add(b -> b.move(0, t, p));
            }
        }
        for (int cue = 0; cue < 4; cue++) {
            int c = cue;
            calls.add(b -> b.strike(c));
            plainCalls.add(b -> b.strike(c));
        }
    }

    /** A call that is refused changes nothing, so only the others are followed by more. */
    private void followAll(List<Checks.Call> calls, List<PlainBook.Call> plainCalls, List<Integer> made) {
        for (int i = 0; i < calls.size(); i++) {
            CueBook book = new CueBook();
            PlainBook plain = new PlainBook();
            book.addPuppet(1, 1);
            plain.addPuppet(1, 1);
            for (int call : made) {
                Checks.outcome(book, calls.get(call));
                PlainBook.outcome(plain, plainCalls.get(call));
            }
            String due = PlainBook.outcome(plain, plainCalls.get(i));
            checks.same("call " + i + " behind the calls " + made, Checks.outcome(book, calls.get(i)), due);
            if (made.size() < 4 && !due.startsWith("throws.")) {
                List<Integer> more = new ArrayList<>(made);
                more.add(i);
                followAll(calls, plainCalls, more);
            }
        }
    }

    private void clash(String what, Checks.Scene scene, int due) {
        checks.answers(scene, what + ": clash(0, 1)", b -> b.clash(0, 1), due);
        checks.answers(scene, what + ": clash(1, 0)", b -> b.clash(1, 0), due);
    }

    private void inTheWay() {
        doc.says("Two puppets are in each other's way at a beat, if both are on stage, at the same place,"
                + " on the same track.");
        clash("at once", Scenes.pair(4, 4), 10);
        clash("the next place", Scenes.pair(4, 5), -1);
        clash("the next track", Scenes.pair(4, 4).then(b -> b.shift(0, 10, 2)), -1);
        clash("until it comes to the same track", Scenes.pair(4, 4).then(b -> {
            b.shift(0, 10, 2);
            b.shift(1, 30, 2);
        }), 30);
        clash("one walks to the other", Scenes.pair(4, 6).then(b -> b.move(0, 20, 9)), 22);
        clash("they walk together", Scenes.pair(4, 5).then(b -> {
            b.move(0, 20, 10);
            b.move(1, 20, 11);
        }), -1);
        clash("one is never on stage", b -> {
            b.addPuppet(1, 1);
            b.addPuppet(1, 1);
            b.enter(0, 0, 0, 0);
        }, -1);
        clash("none is ever on stage", Scenes.ONE_PUPPET.then(Scenes.ONE_PUPPET), -1);
        clash("one leaves at the beat at which the other comes", Scenes.pair(4, 5).then(b -> {
            b.leave(0, 20);
            b.move(1, 19, 4);
        }), -1);
        clash("one leaves a beat later", Scenes.pair(4, 5).then(b -> {
            b.leave(0, 21);
            b.move(1, 19, 4);
        }), 20);
        clash("one comes in where the other left a beat ago", Scenes.pair(4, 7).then(b -> {
            b.leave(0, 20);
            b.leave(1, 20);
            b.enter(1, 20, 4, 1);
        }), -1);
        clash("at the places and tracks with the greatest numbers", b -> {
            b.addPuppet(1, 1);
            b.addPuppet(1, 1);
            b.enter(0, 5, 19, 3);
            b.enter(1, 6, 19, 3);
        }, 6);
    }

    private void crossing() {
        doc.says("They cross if, at a beat and at the next one, both are on the same track as each other"
                + " (it can be another track then), at places that are exchanged in between.");
        Checks.Scene exchange = Scenes.pair(4, 5).then(b -> {
            b.move(0, 20, 5);
            b.move(1, 20, 4);
        });
        clash("neighbouring places", exchange, 20);
        clash("an odd distance", Scenes.pair(4, 9).then(b -> {
            b.move(0, 20, 9);
            b.move(1, 20, 4);
        }), 22);
        clash("an even distance: they meet", Scenes.pair(4, 8).then(b -> {
            b.move(0, 20, 8);
            b.move(1, 20, 4);
        }), 22);
        clash("both change the track in between", exchange.then(b -> {
            b.shift(0, 21, 3);
            b.shift(1, 21, 3);
        }), 20);
        clash("to another track each", exchange.then(b -> {
            b.shift(0, 21, 3);
            b.shift(1, 21, 2);
        }), -1);
        clash("one changes the track in between", exchange.then(b -> b.shift(0, 21, 3)), -1);
        clash("one comes to the track in between", Scenes.pair(4, 5).then(b -> {
            b.shift(0, 15, 0);
            b.move(0, 20, 5);
            b.move(1, 20, 4);
            b.shift(0, 21, 1);
        }), -1);
        clash("one goes to where the other was, which goes on", Scenes.pair(4, 5).then(b -> {
            b.move(0, 20, 5);
            b.move(1, 20, 6);
        }), -1);
        clash("one goes to where the other was, which leaves", Scenes.pair(4, 5).then(b -> {
            b.move(0, 20, 5);
            b.leave(1, 21);
        }), -1);
        clash("both leave, one comes in where the other was", Scenes.pair(4, 5).then(b -> {
            b.leave(0, 21);
            b.leave(1, 21);
            b.enter(0, 21, 5, 1);
        }), -1);
        clash("out and in at places that are exchanged", Scenes.pair(4, 12).then(b -> {
            b.leave(0, 20);
            b.leave(1, 20);
            b.enter(0, 20, 12, 0);
            b.enter(1, 20, 4, 0);
        }), 19);
        clash("a beat between out and in", Scenes.pair(4, 12).then(b -> {
            b.leave(0, 20);
            b.leave(1, 20);
            b.enter(0, 21, 12, 0);
            b.enter(1, 21, 4, 0);
        }), -1);
    }
}
