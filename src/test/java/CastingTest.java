/** Promises 17 to 21: casting. */
final class CastingTest {
    private static final Class<IndexOutOfBoundsException> INDEX = IndexOutOfBoundsException.class;
    private static final Class<IllegalArgumentException> ARGUMENT = IllegalArgumentException.class;

    private final Checks checks = new Checks();

    public static void main(String[] args) {
        CastingTest test = new CastingTest();
        test.stays();
        test.stay();
        test.strength();
        test.handsOfAPlayer();
        test.onePlace();
        test.firstWay();
        test.laterWays();
        test.order();
        test.changes();
        test.uncast();
        test.hands();
        test.load();
        test.checks.report("CastingTest");
    }

    /** Puppet 0 stays 5 to 9 and 9 to 20, puppet 1 from 30 on, puppet 2 never. */
    private static void scene(CueBook b) {
        b.addPuppet(3, 1);
        b.addPuppet(9, 2);
        b.addPuppet(1, 1);
        b.addPlayer(5, 0);
        b.addPlayer(5, 1);
        b.enter(0, 5, 2, 0);
        b.leave(0, 9);
        b.enter(0, 9, 10, 0);
        b.leave(0, 20);
        b.enter(1, 30, 0, 0);
    }

    private void player(String what, Checks.Scene scene, int puppet, int stay, int due) {
        checks.answers(scene, what + ": stay(" + puppet + ", " + stay + ", 2)",
                b -> b.stay(puppet, stay, 2), due);
    }

    private void stays() {
        checks.part("promise 17");
        int[] due = {2, 1, 0};
        for (int i = 0; i < due.length; i++) {
            int p = i;
            checks.answers(CastingTest::scene, "stays(" + p + ")", b -> b.stays(p), due[p]);
        }
        for (int wrong : new int[] {-1, 3, Integer.MIN_VALUE, Integer.MAX_VALUE}) {
            checks.refuses(CastingTest::scene, "stays(" + wrong + ")", b -> b.stays(wrong), INDEX);
        }
    }

    private void stay() {
        checks.part("promise 18");
        int[][] due = {{0, 0, 5, 9, 0}, {0, 1, 9, 20, 1}, {1, 0, 30, 1000, -1}};
        for (int[] row : due) {
            for (int what = 0; what < 3; what++) {
                int w = what;
                checks.answers(CastingTest::scene, "stay(" + row[0] + ", " + row[1] + ", " + w + ")",
                        b -> b.stay(row[0], row[1], w), row[2 + w]);
            }
        }
    }

    private void strength() {
        checks.part("promise 18, the strength of a player");
        for (int strength = 5; strength <= 7; strength++) {
            int s = strength;
            Checks.Scene one = b -> {
                b.addPuppet(6, 1);
                b.addPlayer(s, 0);
                b.enter(0, 0, 0, 0);
            };
            player("weight 6, strength " + s, one, 0, 0, s >= 6 ? 0 : -1);
        }
        for (int strength = 6; strength <= 8; strength++) {
            int s = strength;
            Checks.Scene two = b -> {
                b.addPuppet(4, 1);
                b.addPuppet(3, 1);
                b.addPlayer(s, 0);
                b.enter(0, 0, 0, 0);
                b.enter(1, 50, 0, 1);
            };
            player("weights 4 and 3, strength " + s, two, 0, 0, 0);
            player("weights 4 and 3, strength " + s, two, 1, 0, s >= 7 ? 0 : -1);
        }
        player("one behind the other", b -> {
            b.addPuppet(4, 1);
            b.addPuppet(3, 1);
            b.addPlayer(4, 0);
            b.enter(0, 0, 0, 0);
            b.leave(0, 50);
            b.enter(1, 50, 0, 1);
        }, 1, 0, 0);
    }

    private void handsOfAPlayer() {
        checks.part("promise 18, the hands of a player");
        int[][] due = {{1, 1, 0}, {1, 2, -1}, {2, 1, -1}, {2, 2, -1}};
        for (int[] row : due) {
            player("hands " + row[0] + " and " + row[1], b -> {
                b.addPuppet(1, row[0]);
                b.addPuppet(1, row[1]);
                b.addPlayer(20, 0);
                b.enter(0, 0, 0, 0);
                b.enter(1, 0, 0, 1);
            }, 1, 0, row[2]);
        }
        Checks.Scene three = b -> {
            for (int i = 0; i < 3; i++) {
                b.addPuppet(1, 1);
            }
            b.addPlayer(20, 0);
            b.enter(0, 0, 0, 0);
            b.enter(1, 10, 0, 1);
            b.enter(2, 20, 0, 2);
        };
        player("a third one", three, 2, 0, -1);
        player("a third one, when the first is gone", b -> {
            three.set(b);
            b.leave(0, 20);
        }, 2, 0, 0);
        player("a third one, a beat ahead of that", b -> {
            three.set(b);
            b.leave(0, 21);
        }, 2, 0, -1);
    }

    private void onePlace() {
        checks.part("promise 18, all of them at the same place");
        Checks.Scene two = b -> {
            b.addPuppet(1, 1);
            b.addPuppet(1, 1);
            b.addPlayer(20, 0);
            b.enter(0, 10, 5, 0);
            b.enter(1, 20, 5, 3);
        };
        player("the same place, another track", two, 1, 0, 0);
        player("they walk together", b -> {
            two.set(b);
            b.move(0, 30, 0);
            b.move(1, 30, 0);
        }, 1, 0, 0);
        player("one walks away", b -> {
            two.set(b);
            b.move(0, 30, 6);
        }, 1, 0, -1);
        player("one walks away in the last beat", b -> {
            two.set(b);
            b.move(1, 998, 4);
        }, 1, 0, -1);
        player("one walks away, when the other has left", b -> {
            two.set(b);
            b.leave(0, 31);
            b.move(1, 30, 6);
        }, 1, 0, 0);
        player("one walks away a beat ahead of that", b -> {
            two.set(b);
            b.leave(0, 32);
            b.move(1, 30, 6);
        }, 1, 0, -1);
    }

    private void firstWay() {
        checks.part("promise 18, the way from its own place at first");
        for (int beat = 0; beat <= 8; beat++) {
            int t = beat;
            for (int home : new int[] {5, 11, 12, 19}) {
                player("in at beat " + t + " at place 12, the player at " + home, b -> {
                    b.addPuppet(1, 1);
                    b.addPlayer(1, home);
                    b.enter(0, t, 12, 0);
                }, 0, 0, Math.abs(home - 12) <= t ? 0 : -1);
            }
        }
    }

    private void laterWays() {
        checks.part("promise 18, the way between two stays");
        for (int beat = 20; beat <= 25; beat++) {
            int t = beat;
            for (int place : new int[] {2, 3, 4, 5, 6, 7, 9}) {
                player("out at 20 from place 5, in at beat " + t + " at place " + place, b -> {
                    b.addPuppet(1, 1);
                    b.addPuppet(1, 1);
                    b.addPlayer(1, 0);
                    b.enter(0, 5, 5, 0);
                    b.leave(0, 20);
                    b.enter(1, t, place, 0);
                }, 1, 0, Math.abs(place - 5) <= t - 19 ? 0 : -1);
            }
        }
        Checks.Scene walks = b -> {
            b.addPuppet(1, 1);
            b.addPuppet(1, 1);
            b.addPlayer(1, 0);
            b.enter(0, 0, 0, 0);
            b.move(0, 5, 10);
            b.leave(0, 20);
        };
        player("it walks with its puppet", b -> {
            walks.set(b);
            b.enter(1, 21, 12, 0);
        }, 1, 0, 0);
        player("it walks with its puppet, and not farther", b -> {
            walks.set(b);
            b.enter(1, 21, 13, 0);
        }, 1, 0, -1);
        player("it has not stayed at its own place at first", b -> {
            walks.set(b);
            b.enter(1, 21, 0, 0);
        }, 1, 0, -1);
    }

    private void order() {
        checks.part("promise 18, the order of the casting");
        Checks.Scene heavyLater = b -> {
            b.addPuppet(9, 2);
            b.addPuppet(1, 2);
            b.addPlayer(9, 0);
            b.addPlayer(1, 0);
            b.enter(0, 30, 0, 0);
            b.enter(1, 29, 0, 1);
        };
        player("the earlier one is named first", heavyLater, 0, 0, -1);
        player("the earlier one is named first", heavyLater, 1, 0, 0);
        Checks.Scene oneBeat = b -> {
            b.addPuppet(9, 2);
            b.addPuppet(1, 2);
            b.addPlayer(9, 0);
            b.addPlayer(1, 0);
            b.enter(1, 30, 0, 0);
            b.enter(0, 30, 0, 1);
        };
        player("of the same beat the smaller number", oneBeat, 0, 0, 0);
        player("of the same beat the smaller number", oneBeat, 1, 0, 1);
        Checks.Scene many = b -> {
            b.addPlayer(1, 19);
            for (int i = 0; i < 4; i++) {
                b.addPlayer(20, 0);
            }
            for (int i = 0; i < 6; i++) {
                b.addPuppet(2, 2);
                b.enter(i, 0, 0, 0);
            }
        };
        int[] due = {1, 2, 3, 4, -1, -1};
        for (int i = 0; i < due.length; i++) {
            player("the smallest number that can", many, i, 0, due[i]);
        }
        player("nobody's stay is in nobody's way", b -> {
            many.set(b);
            b.leave(0, 100);
            b.enter(0, 101, 0, 0);
        }, 0, 1, 1);
    }

    private void changes() {
        checks.part("promise 18, the casting is anew behind a change");
        Checks.Scene asked = b -> {
            b.addPuppet(1, 2);
            b.addPuppet(1, 2);
            b.addPlayer(1, 0);
            b.enter(0, 0, 0, 0);
            b.enter(1, 50, 0, 0);
            b.uncast();
        };
        player("as it was", asked, 1, 0, -1);
        player("a LEAVE written", b -> {
            asked.set(b);
            b.leave(0, 50);
        }, 1, 0, 0);
        player("an ENTER struck out", b -> {
            asked.set(b);
            b.strike(0);
        }, 1, 0, 0);
        player("a player added", b -> {
            asked.set(b);
            b.addPlayer(1, 0);
        }, 1, 0, 1);
        player("a MOVE written", b -> {
            asked.set(b);
            b.leave(0, 50);
            b.uncast();
            b.move(0, 10, 5);
        }, 1, 0, -1);
        for (int wrong : new int[] {-1, 3, Integer.MIN_VALUE, Integer.MAX_VALUE}) {
            checks.refuses(CastingTest::scene, "stay(" + wrong + ", 0, 0)", b -> b.stay(wrong, 0, 0), INDEX);
            checks.refuses(CastingTest::scene, "stay(0, 0, " + wrong + ")", b -> b.stay(0, 0, wrong), INDEX);
        }
        for (int wrong : new int[] {-1, 2, Integer.MIN_VALUE, Integer.MAX_VALUE}) {
            checks.refuses(CastingTest::scene, "stay(0, " + wrong + ", 0)", b -> b.stay(0, wrong, 0), INDEX);
        }
        checks.refuses(CastingTest::scene, "no stay at all: stay(2, 0, 0)", b -> b.stay(2, 0, 0), INDEX);
    }

    private void uncast() {
        checks.part("promise 19");
        checks.answers(CastingTest::scene, "uncast()", CueBook::uncast, 1);
        checks.answers(b -> {
            scene(b);
            b.strike(4);
        }, "the stay struck out: uncast()", CueBook::uncast, 0);
        checks.answers(b -> {
            b.addPuppet(1, 1);
            b.addPuppet(1, 1);
            b.enter(0, 0, 0, 0);
            b.leave(0, 5);
            b.enter(0, 5, 0, 0);
            b.enter(1, 0, 0, 0);
        }, "no players: uncast()", CueBook::uncast, 3);
        checks.answers(b -> b.addPuppet(1, 1), "no stays: uncast()", CueBook::uncast, 0);
    }

    private void hands() {
        checks.part("promise 20");
        int[][] due = {{0, 0}, {4, 0}, {5, 1}, {8, 1}, {9, 0}, {20, 0}, {30, 0}, {999, 0}};
        for (int[] row : due) {
            checks.answers(CastingTest::scene, "hands(0, " + row[0] + ")", b -> b.hands(0, row[0]), row[1]);
        }
        int[][] other = {{8, 0}, {9, 1}, {19, 1}, {20, 0}, {999, 0}};
        for (int[] row : other) {
            checks.answers(CastingTest::scene, "hands(1, " + row[0] + ")", b -> b.hands(1, row[0]), row[1]);
        }
        Checks.Scene two = b -> {
            scene(b);
            b.enter(2, 9, 10, 3);
        };
        checks.answers(two, "both hands full: hands(1, 9)", b -> b.hands(1, 9), 5);
        checks.answers(two, "hands(1, 999)", b -> b.hands(1, 999), 4);
        checks.answers(b -> {
            for (int i = 0; i < 8; i++) {
                b.addPuppet(1, 1);
            }
            b.addPlayer(1, 0);
            b.enter(7, 0, 0, 0);
        }, "the last puppet: hands(0, 0)", b -> b.hands(0, 0), 128);
        for (int wrong : new int[] {-1, 2, Integer.MIN_VALUE, Integer.MAX_VALUE}) {
            checks.refuses(CastingTest::scene, "hands(" + wrong + ", -1)", b -> b.hands(wrong, -1), INDEX);
        }
        for (int wrong : new int[] {-1, 1000, Integer.MIN_VALUE, Integer.MAX_VALUE}) {
            checks.refuses(CastingTest::scene, "hands(0, " + wrong + ")", b -> b.hands(0, wrong), ARGUMENT);
        }
    }

    private void load() {
        checks.part("promise 21");
        checks.answers(CastingTest::scene, "load(0)", b -> b.load(0), 4);
        checks.answers(CastingTest::scene, "load(1)", b -> b.load(1), 11);
        checks.answers(b -> {
            b.addPuppet(1, 1);
            b.addPuppet(1, 1);
            b.addPlayer(2, 0);
            b.enter(0, 0, 0, 0);
            b.leave(0, 10);
            b.enter(1, 5, 0, 1);
            b.leave(1, 20);
        }, "a beat with two puppets counts once: load(0)", b -> b.load(0), 20);
        checks.answers(b -> {
            b.addPuppet(1, 1);
            b.addPlayer(1, 0);
            b.enter(0, 0, 0, 0);
        }, "all the time: load(0)", b -> b.load(0), 1000);
        for (int wrong : new int[] {-1, 2, Integer.MIN_VALUE, Integer.MAX_VALUE}) {
            checks.refuses(CastingTest::scene, "load(" + wrong + ")", b -> b.load(wrong), INDEX);
        }
    }
}
