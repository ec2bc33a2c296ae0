import java.util.ArrayList;
import java.util.List;

/** "Terms" from the players and puppets on: stays, the casting, refused calls, the interface. */
final class CastingTermsTest {
    private final Checks checks = new Checks();
    private final Document doc = new Document(checks);

    public static void main(String[] args) {
        CastingTermsTest test = new CastingTermsTest();
        test.doc.section("Terms", "Players and puppets.", "");
        test.staysOfAPuppet();
        test.sumOfHands();
        test.sumOfWeights();
        test.samePlace();
        test.waysBetween();
        test.firstWay();
        test.walksWithPuppets();
        test.order();
        test.smallestNumber();
        test.nobody();
        test.changesNothing();
        test.namedFirst();
        test.interfaceSays();
        test.doc.end();
        test.checks.report("CastingTermsTest");
    }

    private void player(String what, Checks.Scene scene, int puppet, int stay, int due) {
        checks.answers(scene, what + ": stay(" + puppet + ", " + stay + ", 2)",
                b -> b.stay(puppet, stay, 2), due);
    }

    private void stay(Checks.Scene scene, int puppet, int stay, int from, int to) {
        checks.answers(scene, "stay(" + puppet + ", " + stay + ", 0)", b -> b.stay(puppet, stay, 0), from);
        checks.answers(scene, "stay(" + puppet + ", " + stay + ", 1)", b -> b.stay(puppet, stay, 1), to);
    }

    private void staysOfAPuppet() {
        doc.says("Players and puppets. A stay of a puppet is the time from an ENTER of it on, ahead of the"
                + " next LEAVE (or beat 1000, if there is none).");
        Checks.Scene scene = b -> {
            b.addPuppet(1, 1);
            b.addPuppet(1, 1);
            b.addPuppet(1, 1);
            b.enter(0, 0, 2, 0);
            b.leave(0, 1);
            b.enter(0, 1, 2, 0);
            b.move(0, 5, 4);
            b.leave(0, 9);
            b.enter(0, 998, 2, 0);
            b.leave(0, 999);
            b.enter(1, 999, 0, 0);
            b.enter(2, 0, 0, 0);
        };
        checks.answers(scene, "stays(0)", b -> b.stays(0), 3);
        stay(scene, 0, 0, 0, 1);
        stay(scene, 0, 1, 1, 9);
        stay(scene, 0, 2, 998, 999);
        stay(scene, 1, 0, 999, 1000);
        stay(scene, 2, 0, 0, 1000);
        stay(scene.then(b -> b.strike(6)), 0, 2, 998, 1000);
        stay(scene.then(b -> b.leave(2, 500)), 2, 0, 0, 500);
        stay(scene.then(b -> {
            b.leave(2, 500);
            b.strike(9);
        }), 2, 0, 0, 1000);
        doc.says("For each stay, a player can be named.");
        Checks.Scene twoPlayers = b -> {
            b.addPlayer(1, 0);
            b.addPlayer(1, 19);
            b.addPuppet(1, 1);
            b.enter(0, 0, 0, 0);
            b.leave(0, 5);
            b.enter(0, 5, 19, 0);
        };
        player("its first stay", twoPlayers, 0, 0, 0);
        player("its second stay", twoPlayers, 0, 1, 1);
    }

    private void sumOfHands() {
        doc.says("A player can do its stays, if in each beat: the sum of the hands that its puppets on stage"
                + " need is at most 2;");
        int[][] due = {{1, 1, 0}, {1, 2, -1}, {2, 1, -1}, {2, 2, -1}};
        for (int[] row : due) {
            player("hands " + row[0] + " and " + row[1], b -> {
                b.addPuppet(1, row[0]);
                b.addPuppet(1, row[1]);
                b.addPlayer(20, 0);
                b.enter(0, 0, 0, 0);
                b.enter(1, 0, 0, 1);
            }, 1, 0, row[2]);
        }
        player("two hands alone", b -> {
            b.addPuppet(1, 2);
            b.addPlayer(1, 0);
            b.enter(0, 0, 0, 0);
        }, 0, 0, 0);
        Checks.Scene three = b -> {
            for (int i = 0; i < 3; i++) {
                b.addPuppet(1, 1);
            }
            b.addPlayer(20, 0);
            b.enter(0, 0, 0, 0);
            b.enter(1, 10, 0, 1);
            b.enter(2, 20, 0, 2);
        };
        player("a third one", three, 2, 0, -1);
        player("a third one, when the first is gone", three.then(b -> b.leave(0, 20)), 2, 0, 0);
        player("a third one, a beat ahead of that", three.then(b -> b.leave(0, 21)), 2, 0, -1);
    }

    private void sumOfWeights() {
        doc.says("the sum of their weights is at most its strength;");
        for (int strength = 5; strength <= 7; strength++) {
            int s = strength;
            player("weight 6, strength " + s, b -> {
                b.addPuppet(6, 1);
                b.addPlayer(s, 0);
                b.enter(0, 0, 0, 0);
            }, 0, 0, s >= 6 ? 0 : -1);
        }
        for (int strength = 6; strength <= 8; strength++) {
            int s = strength;
            Checks.Scene two = b -> {
                b.addPuppet(4, 1);
                b.addPuppet(3, 1);
                b.addPlayer(s, 0);
                b.enter(0, 0, 0, 0);
                b.enter(1, 50, 0, 1);
            };
            player("weights 4 and 3, strength " + s, two, 0, 0, 0);
            player("weights 4 and 3, strength " + s, two, 1, 0, s >= 7 ? 0 : -1);
            player("weights 4 and 3, one behind the other, strength " + s,
                    two.then(b -> b.leave(0, 50)), 1, 0, 0);
            player("weights 4 and 3, together for one beat, strength " + s,
                    two.then(b -> b.leave(0, 51)), 1, 0, s >= 7 ? 0 : -1);
        }
    }

    private void samePlace() {
        doc.says("all of them are at the same place;");
        Checks.Scene two = b -> {
            b.addPuppet(1, 1);
            b.addPuppet(1, 1);
            b.addPlayer(20, 0);
            b.enter(0, 10, 5, 0);
            b.enter(1, 20, 5, 3);
        };
        player("the same place, another track", two, 1, 0, 0);
        for (int place : new int[] {4, 6}) {
            player("the next place, " + place, two.then(b -> {
                b.strike(1);
                b.enter(1, 20, place, 0);
            }), 1, 0, -1);
        }
        player("they walk together", two.then(b -> {
            b.move(0, 30, 0);
            b.move(1, 30, 0);
        }), 1, 0, 0);
        player("one walks a beat later", two.then(b -> {
            b.move(0, 30, 0);
            b.move(1, 31, 0);
        }), 1, 0, -1);
        player("one walks away", two.then(b -> b.move(0, 30, 6)), 1, 0, -1);
        player("one walks away in the last beat", two.then(b -> b.move(1, 998, 4)), 1, 0, -1);
        player("one walks away, when the other has left", two.then(b -> {
            b.leave(0, 31);
            b.move(1, 30, 6);
        }), 1, 0, 0);
        player("one walks away a beat ahead of that", two.then(b -> {
            b.leave(0, 32);
            b.move(1, 30, 6);
        }), 1, 0, -1);
        player("the longer one walks away, when the shorter one has left", two.then(b -> {
            b.leave(1, 31);
            b.move(0, 30, 6);
        }), 1, 0, 0);
    }

    private void waysBetween() {
        doc.says("and it can come there: at two beats t and u, t ahead of u, at which it has puppets, and none in"
                + " between, their places differ by at most u - t;");
        for (int beat = 20; beat <= 25; beat++) {
            int u = beat;
            for (int place : new int[] {2, 3, 4, 5, 6, 7, 9}) {
                player("out at 20 from place 5, in at beat " + u + " at place " + place, b -> {
                    b.addPuppet(1, 1);
                    b.addPuppet(1, 1);
                    b.addPlayer(1, 0);
                    b.enter(0, 5, 5, 0);
                    b.leave(0, 20);
                    b.enter(1, u, place, 0);
                }, 1, 0, Math.abs(place - 5) <= u - 19 ? 0 : -1);
            }
        }
        for (int beat : new int[] {18, 19, 20}) {
            player("from one end to the other, 19 places from beat 0 to " + beat, b -> {
                b.addPuppet(1, 1);
                b.addPlayer(1, 0);
                b.enter(0, 0, 0, 0);
                b.leave(0, 1);
                b.enter(0, beat, 19, 0);
            }, 0, 1, beat >= 19 ? 0 : -1);
        }
        player("of the two that it had, the one that left last counts", b -> {
            b.addPuppet(1, 1);
            b.addPuppet(1, 1);
            b.addPuppet(1, 1);
            b.addPlayer(20, 0);
            b.enter(0, 0, 0, 0);
            b.enter(1, 0, 0, 1);
            b.leave(0, 5);
            b.move(1, 5, 8);
            b.leave(1, 14);
            b.enter(2, 15, 10, 0);
        }, 2, 0, 0);
    }

    private void firstWay() {
        doc.says("and at the first beat u at which it has one, the place differs from its own one at first"
                + " by at most u.");
        for (int beat = 0; beat <= 8; beat++) {
            int u = beat;
            for (int home : new int[] {5, 11, 12, 13, 19}) {
                player("in at beat " + u + " at place 12, the player at " + home, b -> {
                    b.addPuppet(1, 1);
                    b.addPlayer(1, home);
                    b.enter(0, u, 12, 0);
                }, 0, 0, Math.abs(home - 12) <= u ? 0 : -1);
            }
        }
        player("the second stay is its first one", b -> {
            b.addPuppet(1, 1);
            b.addPlayer(1, 19);
            b.enter(0, 18, 0, 0);
            b.leave(0, 19);
            b.enter(0, 19, 0, 0);
        }, 0, 1, 0);
    }

    private void walksWithPuppets() {
        doc.says("(It walks with its puppets.)");
        Checks.Scene walks = b -> {
            b.addPuppet(1, 1);
            b.addPuppet(1, 1);
            b.addPlayer(1, 0);
            b.enter(0, 0, 0, 0);
            b.move(0, 5, 10);
            b.leave(0, 20);
        };
        player("it has come along", walks.then(b -> b.enter(1, 21, 12, 0)), 1, 0, 0);
        player("and not farther", walks.then(b -> b.enter(1, 21, 13, 0)), 1, 0, -1);
        player("it has not stayed where it was at first", walks.then(b -> b.enter(1, 21, 0, 0)), 1, 0, -1);
        player("it is back there in time", walks.then(b -> b.enter(1, 29, 0, 0)), 1, 0, 0);
        player("it is not back there a beat ahead of that", walks.then(b -> b.enter(1, 28, 0, 0)), 1, 0, -1);
    }

    private void order() {
        doc.says("The casting names players for all stays, in ascending order of their beginnings");
        Checks.Scene heavyLater = b -> {
            b.addPuppet(9, 2);
            b.addPuppet(1, 2);
            b.addPlayer(9, 0);
            b.addPlayer(1, 0);
            b.enter(0, 30, 0, 0);
            b.enter(1, 29, 0, 1);
        };
        player("the earlier one has the strong player", heavyLater, 1, 0, 0);
        player("for the later one there is nobody", heavyLater, 0, 0, -1);
        doc.says(", of the same beat in that of the numbers of the puppets:");
        Checks.Scene oneBeat = b -> {
            b.addPuppet(9, 2);
            b.addPuppet(1, 2);
            b.addPlayer(9, 0);
            b.addPlayer(1, 0);
            b.enter(1, 30, 0, 0);
            b.enter(0, 30, 0, 1);
        };
        player("the smaller number has the strong player, though it was written later", oneBeat, 0, 0, 0);
        player("for the greater number there is the other one", oneBeat, 1, 0, 1);
    }

    private static final Checks.Scene MANY = b -> {
        b.addPlayer(1, 19);
        for (int i = 0; i < 4; i++) {
            b.addPlayer(20, 0);
        }
        for (int i = 0; i < 6; i++) {
            b.addPuppet(2, 2);
            b.enter(i, 0, 0, 0);
        }
    };

    private void smallestNumber() {
        doc.says("for each the player with the smallest number such that it can do all its stays that were named"
                + " so far, and this one;");
        int[] due = {1, 2, 3, 4, -1, -1};
        for (int i = 0; i < due.length; i++) {
            player("players 1 to 4 can", MANY, i, 0, due[i]);
        }
        Checks.Scene later = b -> {
            b.addPuppet(1, 2);
            b.addPuppet(1, 2);
            b.addPuppet(1, 2);
            b.addPlayer(1, 0);
            b.addPlayer(1, 0);
            b.enter(0, 0, 0, 0);
            b.enter(1, 5, 0, 1);
            b.leave(0, 10);
            b.enter(2, 10, 0, 0);
        };
        player("the first one has its hands full", later, 1, 0, 1);
        player("the first one is free again", later, 2, 0, 0);
        player("a stay that is named later does not count yet", b -> {
            b.addPuppet(1, 2);
            b.addPuppet(1, 2);
            b.addPlayer(1, 0);
            b.enter(1, 0, 0, 0);
            b.enter(0, 500, 0, 1);
        }, 1, 0, 0);
    }

    private void nobody() {
        doc.says("if there is none, nobody.");
        checks.answers(MANY, "uncast()", CueBook::uncast, 2);
        player("nobody's stay is in nobody's way", MANY.then(b -> {
            b.leave(0, 100);
            b.enter(0, 101, 0, 0);
        }), 0, 1, 1);
        player("no players at all", Scenes.ONE_PUPPET.then(b -> b.enter(0, 0, 0, 0)), 0, 0, -1);
        player("all five have their hands full", b -> {
            Scenes.FIVE_PLAYERS.set(b);
            for (int i = 0; i < 6; i++) {
                b.addPuppet(1, 2);
                b.enter(i, 0, 19, 0);
            }
        }, 5, 0, -1);
    }

    /** Each method that can be refused, for each reason that the document names. */
    private static final Checks.Call[] REFUSED_OF_FULL = {
        b -> b.addPuppet(0, 1), b -> b.addPuppet(1, 3), b -> b.addPuppet(9, 2),
        b -> b.addPlayer(21, 0), b -> b.addPlayer(1, 20), b -> b.addPlayer(20, 19),
        b -> b.enter(8, 0, 0, 0), b -> b.enter(0, 1000, 0, 0), b -> b.enter(0, 65, 20, 0),
        b -> b.enter(0, 65, 0, 4), b -> b.enter(7, 0, 0, 0),
        b -> b.move(-1, 90, 0), b -> b.move(0, -1, 0), b -> b.move(0, 90, -1), b -> b.move(0, 90, 8),
        b -> b.shift(8, 90, 0), b -> b.shift(0, 1000, 0), b -> b.shift(0, 90, 4), b -> b.shift(0, 90, 3),
        b -> b.leave(-1, 90), b -> b.leave(0, -1), b -> b.leave(0, 90),
        b -> b.strike(40), b -> b.strike(-1), b -> b.strike(0), b -> b.strike(2), b -> b.strike(38),
        b -> b.count(4), b -> b.cue(40, 0), b -> b.cue(0, 5), b -> b.place(8, 0), b -> b.place(0, 1000),
        b -> b.track(8, 0), b -> b.track(0, 1000), b -> b.onStage(1000), b -> b.clash(0, 8),
        b -> b.clash(8, 0), b -> b.clash(7, 7), b -> b.beats(8), b -> b.stays(8), b -> b.stay(8, 0, 0),
        b -> b.stay(0, 2, 0), b -> b.stay(0, 0, 3), b -> b.hands(5, 0), b -> b.hands(0, 1000),
        b -> b.load(5), b -> b.note(40, 0), b -> b.note(1, 51), b -> b.note(0, 50), b -> b.note(39, 0),
        b -> b.mean(40)
    };

    private static final Checks.Call[] REFUSED_OF_WALK = {
        b -> b.enter(0, 10, 0, 0), b -> b.enter(0, 9, 0, 0), b -> b.enter(0, 29, 0, 0),
        b -> b.move(0, 9, 5), b -> b.move(0, 12, 5), b -> b.move(0, 29, 0), b -> b.move(0, 30, 9),
        b -> b.shift(0, 9, 0), b -> b.shift(0, 15, 0), b -> b.shift(0, 30, 0), b -> b.shift(1, 0, 0),
        b -> b.leave(0, 10), b -> b.leave(0, 11), b -> b.leave(0, 29), b -> b.leave(0, 30),
        b -> b.leave(0, 999), b -> b.strike(0)
    };

    private void changesNothing() {
        doc.says("A method that throws an exception changes nothing.");
        refusedAll("the full book", Scenes.FULL, REFUSED_OF_FULL);
        refusedAll("one walk", Scenes.WALK, REFUSED_OF_WALK);
    }

    private void refusedAll(String what, Checks.Scene scene, Checks.Call[] calls) {
        for (int i = 0; i < calls.length; i++) {
            Checks.Call call = calls[i];
            checks.throwsSomething(scene, what + ", call " + i, call);
            checks.sameBooks(what + ", behind call " + i, scene, scene.then(b -> Checks.outcome(b, call)));
        }
        checks.sameBooks(what + ", behind all of the calls", scene, scene.then(b -> {
            for (Checks.Call call : calls) {
                Checks.outcome(b, call);
            }
        }));
    }

    private void namedFirst() {
        doc.says("If several exceptions apply, the one that is named first is thrown.");
        Checks.Scene full = Scenes.FULL;
        for (int no : new int[] {-1, 8}) {
            first(full, "no puppet, no beat, 40 cues: enter", b -> b.enter(no, 1000, 0, 0), Checks.INDEX);
            first(full, "no puppet, no place, 40 cues: enter", b -> b.enter(no, 0, 20, 0), Checks.INDEX);
            first(full, "no puppet, no track, 40 cues: enter", b -> b.enter(no, 0, 0, 4), Checks.INDEX);
            first(full, "no puppet, 40 cues: enter", b -> b.enter(no, 0, 0, 0), Checks.INDEX);
            first(full, "no puppet, no beat, 40 cues: move", b -> b.move(no, -1, 0), Checks.INDEX);
            first(full, "no puppet, no place, 40 cues: move", b -> b.move(no, 0, -1), Checks.INDEX);
            first(full, "no puppet, 40 cues: move", b -> b.move(no, 0, 0), Checks.INDEX);
            first(full, "no puppet, no beat, 40 cues: shift", b -> b.shift(no, 1000, 0), Checks.INDEX);
            first(full, "no puppet, no track, 40 cues: shift", b -> b.shift(no, 0, -1), Checks.INDEX);
            first(full, "no puppet, 40 cues: shift", b -> b.shift(no, 0, 0), Checks.INDEX);
            first(full, "no puppet, no beat, 40 cues: leave", b -> b.leave(no, -1), Checks.INDEX);
            first(full, "no puppet, 40 cues: leave", b -> b.leave(no, 0), Checks.INDEX);
            first(full, "no puppet, no beat: place", b -> b.place(no, 1000), Checks.INDEX);
            first(full, "no puppet, no beat: track", b -> b.track(no, -1), Checks.INDEX);
            first(full, "no puppet, twice the same: clash", b -> b.clash(no, no), Checks.INDEX);
            first(full, "no player, no beat: hands", b -> b.hands(no, 1000), Checks.INDEX);
        }
        first(full, "no weight, 8 puppets: addPuppet", b -> b.addPuppet(10, 1), Checks.ARGUMENT);
        first(full, "no hands, 8 puppets: addPuppet", b -> b.addPuppet(1, 0), Checks.ARGUMENT);
        first(full, "no strength, 5 players: addPlayer", b -> b.addPlayer(0, 0), Checks.ARGUMENT);
        first(full, "no place, 5 players: addPlayer", b -> b.addPlayer(1, -1), Checks.ARGUMENT);
        first(full, "no beat, 40 cues: enter", b -> b.enter(0, 1000, 0, 0), Checks.ARGUMENT);
        first(full, "no place, 40 cues: enter", b -> b.enter(0, 65, -1, 0), Checks.ARGUMENT);
        first(full, "no track, 40 cues: enter", b -> b.enter(0, 65, 0, -1), Checks.ARGUMENT);
        first(full, "no beat, 40 cues: move", b -> b.move(0, -1, 0), Checks.ARGUMENT);
        first(full, "no place, 40 cues: move", b -> b.move(0, 90, 20), Checks.ARGUMENT);
        first(full, "no beat, 40 cues: shift", b -> b.shift(0, 1000, 0), Checks.ARGUMENT);
        first(full, "no track, 40 cues: shift", b -> b.shift(0, 90, 4), Checks.ARGUMENT);
        first(full, "no beat, 40 cues: leave", b -> b.leave(0, 1000), Checks.ARGUMENT);
        first(Scenes.WALK, "no place, and not right: enter", b -> b.enter(0, 15, 20, 0), Checks.ARGUMENT);
        first(Scenes.WALK, "no place, and not right: move", b -> b.move(0, 13, 20), Checks.ARGUMENT);
        first(Scenes.WALK, "no track, and not right: shift", b -> b.shift(0, 13, 4), Checks.ARGUMENT);
        first(Scenes.WALK, "no beat, and not right: leave", b -> b.leave(1, 1000), Checks.ARGUMENT);
        first(full, "no such cue, too late: note", b -> b.note(40, 51), Checks.INDEX);
        first(full, "too late, noted 20 times: note", b -> b.note(0, 51), Checks.ARGUMENT);
        first(full, "too early, noted 20 times: note", b -> b.note(39, -51), Checks.ARGUMENT);
        Checks.Scene struck = full.then(b -> b.strike(39));
        first(struck, "struck out, too late, noted 20 times: note", b -> b.note(39, 51), Checks.INDEX);
        first(struck, "struck out, noted 20 times: note", b -> b.note(39, 0), Checks.INDEX);
    }

    private void first(Checks.Scene scene, String what, Checks.Call call, Class<? extends RuntimeException> due) {
        checks.refuses(scene, what, call, due);
    }

    private void interfaceSays() {
        interfaceSays("puppets, players and cues", "addPuppet", "addPlayer", "enter", "move", "shift", "leave",
                "strike", "count", "cue");
        interfaceSays("the stage", "place", "track", "onStage", "clash", "clashes", "beats");
        interfaceSays("casting", "stays", "stay", "uncast", "hands", "load");
        interfaceSays("rehearsals", "note", "mean", "worst", "digest");
    }

    /** The calls stand below their line of the source, and ahead of the next such line. */
    private void interfaceSays(String line, String... calls) {
        List<String> quoted = new ArrayList<>();
        for (String call : calls) {
            quoted.add("`" + call + "`");
        }
        doc.says("Ahead of the calls " + String.join(", ", quoted) + " the interface says: ---- " + line + ".");
        List<String> below = LanguageTest.publicMethodsBelow("// ---- " + line);
        checks.same("the calls below it", below, List.of(calls));
    }
}
