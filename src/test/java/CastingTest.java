/** Promises 17 to 21: casting. */
final class CastingTest {
    private static final int[] NO_PUPPETS = Checks.outside(0, 2);
    private static final int[] NO_PUPPETS_OF_FULL = Checks.outside(0, 7);
    private static final int[] NO_PLAYERS = Checks.outside(0, 1);
    private static final int[] NO_PLAYERS_OF_FULL = Checks.outside(0, 4);
    private static final int[] NO_BEATS = Checks.outside(0, 999);

    /** Puppet 0 stays 5 to 9 and 9 to 20, puppet 1 from 30 on, too heavy for all, puppet 2 never. */
    private static final Checks.Scene SCENE = b -> {
        b.addPuppet(3, 1);
        b.addPuppet(9, 2);
        b.addPuppet(1, 1);
        b.addPlayer(5, 0);
        b.addPlayer(5, 1);
        b.enter(0, 5, 2, 0);
        b.leave(0, 9);
        b.enter(0, 9, 10, 0);
        b.leave(0, 20);
        b.enter(1, 30, 0, 0);
    };

    /** One puppet on stage from beat 0 to beat 999, and one player that holds it. */
    private static final Checks.Scene ALWAYS_HELD = b -> {
        b.addPuppet(1, 1);
        b.addPlayer(1, 0);
        b.enter(0, 0, 0, 0);
    };

    private static final Checks.Scene TWENTY_STAYS = b -> {
        b.addPuppet(1, 1);
        for (int i = 0; i < 20; i++) {
            b.enter(0, 2 * i, 0, 0);
            b.leave(0, 2 * i + 1);
        }
    };

    private final Checks checks = new Checks();
    private final Document doc = new Document(checks);

    public static void main(String[] args) {
        CastingTest test = new CastingTest();
        test.stays();
        test.stay();
        test.stayOfChanges();
        test.stayRefused();
        test.uncast();
        test.hands();
        test.handsRefused();
        test.load();
        test.doc.end();
        test.checks.report("CastingTest");
    }

    private void stays() {
        doc.section("Promise 17: stays");
        doc.says("- `puppet`: a puppet");
        checks.answersEach(Scenes.FULL, "of the full book: stays(#)", new int[] {0, 1, 6, 7}, CueBook::stays, 2);
        doc.says("Returns the number of its stays.");
        int[] due = {2, 1, 0};
        for (int i = 0; i < due.length; i++) {
            int p = i;
            checks.answers(SCENE, "stays(" + p + ")", b -> b.stays(p), due[p]);
        }
        checks.answers(TWENTY_STAYS, "as many as 40 cues can make: stays(0)", b -> b.stays(0), 20);
        checks.answers(b -> {
            b.addPuppet(1, 1);
            for (int i = 0; i < 20; i++) {
                b.enter(0, i, 0, 0);
                b.leave(0, i + 1);
            }
        }, "as many, with no beat in between: stays(0)", b -> b.stays(0), 20);
        checks.answers(SCENE.then(b -> b.strike(4)), "struck out: stays(1)", b -> b.stays(1), 0);
        doc.says("Throws `IndexOutOfBoundsException` if there is no such puppet");
        checks.refusesEach(SCENE, "stays(#)", NO_PUPPETS, CueBook::stays, Checks.INDEX);
        checks.refusesEach(Scenes.FULL, "stays(#)", NO_PUPPETS_OF_FULL, CueBook::stays, Checks.INDEX);
        checks.refuses(Scenes.EMPTY, "stays(0)", b -> b.stays(0), Checks.INDEX);
    }

    /** What stay() tells of each stay of the scene, by what. */
    private void told(int what, int first, int second, int third) {
        checks.answers(SCENE, "stay(0, 0, " + what + ")", b -> b.stay(0, 0, what), first);
        checks.answers(SCENE, "stay(0, 1, " + what + ")", b -> b.stay(0, 1, what), second);
        checks.answers(SCENE, "stay(1, 0, " + what + ")", b -> b.stay(1, 0, what), third);
    }

    /** The player of both stays of each puppet of the full book. */
    private static final int[] PLAYERS_OF_FULL = {0, 1, 2, 3, -1, -1, -1, -1};

    private void stay() {
        doc.section("Promise 18: stay");
        doc.says("- `puppet`: a puppet");
        checks.answersEach(Scenes.FULL, "of the full book: stay(#, 0, 0) - 100 * #", new int[] {0, 1, 6, 7},
                (b, x) -> b.stay(x, 0, 0) - 100 * x, 0);
        doc.says("- `stay`: the number of a stay, from 0, in ascending order");
        checks.answersEach(Scenes.FULL, "of the full book: stay(7, #, 0) - 70 * #", new int[] {0, 1},
                (b, x) -> b.stay(7, x, 0) - 70 * x, 700);
        for (int stay = 0; stay < 20; stay++) {
            int s = stay;
            checks.answers(TWENTY_STAYS, "stay(0, " + s + ", 0)", b -> b.stay(0, s, 0), 2 * s);
        }
        doc.says("- `what`: 0 its first beat");
        told(0, 5, 9, 30);
        doc.says(", 1 the beat behind its last one");
        told(1, 9, 20, 1000);
        doc.says(", 2 the player that the casting names for it");
        told(2, 0, 1, -1);
        for (int puppet = 0; puppet < 8; puppet++) {
            int p = puppet;
            checks.answersEach(Scenes.FULL, "of the full book: stay(" + p + ", #, 2)", new int[] {0, 1},
                    (b, x) -> b.stay(p, x, 2), PLAYERS_OF_FULL[p]);
        }
        doc.says(", -1 for nobody");
        checks.answers(SCENE, "too heavy for all: stay(1, 0, 2)", b -> b.stay(1, 0, 2), -1);
        checks.answers(Scenes.ONE_PUPPET.then(b -> b.enter(0, 0, 0, 0)), "no players: stay(0, 0, 2)",
                b -> b.stay(0, 0, 2), -1);
    }

    private void stayOfChanges() {
        doc.says("Returns this.");
        Checks.Scene asked = b -> {
            b.addPuppet(1, 2);
            b.addPuppet(1, 2);
            b.addPlayer(1, 0);
            b.enter(0, 0, 0, 0);
            b.enter(1, 50, 0, 0);
            b.uncast();
        };
        player("as it was", asked, -1);
        player("a LEAVE written", asked.then(b -> b.leave(0, 50)), 0);
        player("an ENTER struck out", asked.then(b -> b.strike(0)), 0);
        player("a player added", asked.then(b -> b.addPlayer(1, 0)), 1);
        player("a MOVE written", asked.then(b -> {
            b.leave(0, 50);
            b.uncast();
            b.move(0, 10, 5);
        }), -1);
        player("and struck out again", asked.then(b -> {
            b.leave(0, 50);
            b.move(0, 10, 5);
            b.uncast();
            b.strike(3);
        }), 0);
    }

    private void player(String what, Checks.Scene scene, int due) {
        checks.answers(scene, what + ": stay(1, 0, 2)", b -> b.stay(1, 0, 2), due);
    }

    private void stayRefused() {
        doc.says("Throws `IndexOutOfBoundsException` if there is no such puppet");
        checks.refusesEach(SCENE, "stay(#, 0, 0)", NO_PUPPETS, (b, x) -> b.stay(x, 0, 0), Checks.INDEX);
        checks.refusesEach(Scenes.FULL, "stay(#, 0, 0)", NO_PUPPETS_OF_FULL,
                (b, x) -> b.stay(x, 0, 0), Checks.INDEX);
        checks.refuses(Scenes.EMPTY, "stay(0, 0, 0)", b -> b.stay(0, 0, 0), Checks.INDEX);
        doc.says(" or stay");
        checks.refusesEach(TWENTY_STAYS, "stay(0, #, 0)", Checks.outside(0, 19),
                (b, x) -> b.stay(0, x, 0), Checks.INDEX);
        checks.refusesEach(SCENE, "stay(0, #, 0)", Checks.outside(0, 1), (b, x) -> b.stay(0, x, 0), Checks.INDEX);
        checks.refusesEach(SCENE, "stay(1, #, 0)", Checks.outside(0, 0), (b, x) -> b.stay(1, x, 0), Checks.INDEX);
        checks.refusesEach(SCENE, "none at all: stay(2, #, 0)", new int[] {-1, 0, 1},
                (b, x) -> b.stay(2, x, 0), Checks.INDEX);
        doc.says(", or what is not 0 to 2");
        checks.refusesEach(SCENE, "stay(0, 0, #)", Checks.outside(0, 2), (b, x) -> b.stay(0, 0, x), Checks.INDEX);
        checks.refuses(SCENE, "no such stay, either: stay(2, 0, 3)", b -> b.stay(2, 0, 3), Checks.INDEX);
    }

    private void uncast() {
        doc.section("Promise 19: uncast");
        doc.says("Returns the number of stays for which the casting names nobody.");
        checks.answers(SCENE, "uncast()", CueBook::uncast, 1);
        checks.answers(Scenes.FULL, "of the full book: uncast()", CueBook::uncast, 8);
        checks.answers(Scenes.EMPTY, "of the empty book: uncast()", CueBook::uncast, 0);
        checks.answers(Scenes.ONE_PUPPET, "no stays: uncast()", CueBook::uncast, 0);
        checks.answers(ALWAYS_HELD, "all have a player: uncast()", CueBook::uncast, 0);
        checks.answers(SCENE.then(b -> b.strike(4)), "the stay struck out: uncast()", CueBook::uncast, 0);
        checks.answers(b -> {
            b.addPuppet(1, 1);
            b.addPuppet(1, 1);
            b.enter(0, 0, 0, 0);
            b.leave(0, 5);
            b.enter(0, 5, 0, 0);
            b.enter(1, 0, 0, 0);
        }, "no players: uncast()", CueBook::uncast, 3);
    }

    private void hands() {
        doc.section("Promise 20: hands");
        doc.says("- `player`: a player");
        for (int player = 0; player < 5; player++) {
            int p = player;
            checks.answers(Scenes.FULL, "of the full book: hands(" + p + ", 999)", b -> b.hands(p, 999),
                    p < 4 ? 1 << p : 0);
        }
        doc.says("- `beat`: a beat");
        checks.answersEach(ALWAYS_HELD, "hands(0, #)", new int[] {0, 1, 998, 999}, (b, x) -> b.hands(0, x), 1);
        doc.says("Returns the set of the puppets that it has in its hands at this beat, by the casting.");
        int[][] due = {{0, 0}, {4, 0}, {5, 1}, {8, 1}, {9, 0}, {20, 0}, {30, 0}, {999, 0}};
        for (int[] row : due) {
            checks.answers(SCENE, "hands(0, " + row[0] + ")", b -> b.hands(0, row[0]), row[1]);
        }
        int[][] other = {{8, 0}, {9, 1}, {19, 1}, {20, 0}, {999, 0}};
        for (int[] row : other) {
            checks.answers(SCENE, "hands(1, " + row[0] + ")", b -> b.hands(1, row[0]), row[1]);
        }
        Checks.Scene two = SCENE.then(b -> b.enter(2, 9, 10, 3));
        checks.answers(two, "two at once: hands(1, 9)", b -> b.hands(1, 9), 5);
        checks.answers(two, "two at once: hands(1, 19)", b -> b.hands(1, 19), 5);
        checks.answers(two, "one of them left: hands(1, 20)", b -> b.hands(1, 20), 4);
        checks.answers(two, "hands(1, 999)", b -> b.hands(1, 999), 4);
        checks.answers(b -> {
            for (int i = 0; i < 8; i++) {
                b.addPuppet(1, 1);
            }
            b.addPlayer(2, 0);
            b.enter(7, 0, 0, 0);
            b.enter(6, 0, 0, 1);
        }, "the last puppets: hands(0, 0)", b -> b.hands(0, 0), 128 + 64);
        checks.answersEach(Scenes.FIVE_PLAYERS, "no puppets: hands(#, 0)", new int[] {0, 4},
                (b, x) -> b.hands(x, 0), 0);
        checks.answers(ALWAYS_HELD.then(b -> {
            b.uncast();
            b.strike(0);
        }), "its stay struck out: hands(0, 0)", b -> b.hands(0, 0), 0);
    }

    private void handsRefused() {
        doc.says("Throws `IndexOutOfBoundsException` if there is no such player");
        checks.refusesEach(SCENE, "hands(#, 0)", NO_PLAYERS, (b, x) -> b.hands(x, 0), Checks.INDEX);
        checks.refusesEach(SCENE, "hands(#, -1)", NO_PLAYERS, (b, x) -> b.hands(x, -1), Checks.INDEX);
        checks.refusesEach(Scenes.FULL, "hands(#, 0)", NO_PLAYERS_OF_FULL, (b, x) -> b.hands(x, 0), Checks.INDEX);
        checks.refuses(Scenes.EMPTY, "hands(0, 0)", b -> b.hands(0, 0), Checks.INDEX);
        doc.says("Throws `IllegalArgumentException` if beat is not 0 to 999");
        checks.refusesEach(SCENE, "hands(0, #)", NO_BEATS, (b, x) -> b.hands(0, x), Checks.ARGUMENT);
        checks.refusesEach(Scenes.FULL, "hands(4, #)", NO_BEATS, (b, x) -> b.hands(4, x), Checks.ARGUMENT);
    }

    private void load() {
        doc.section("Promise 21: load");
        doc.says("- `player`: a player");
        int[] ofFull = {990, 890, 790, 690, 0};
        for (int player = 0; player < 5; player++) {
            int p = player;
            checks.answers(Scenes.FULL, "of the full book: load(" + p + ")", b -> b.load(p), ofFull[p]);
        }
        doc.says("Returns on how many beats it has at least one puppet, by the casting.");
        checks.answers(SCENE, "load(0)", b -> b.load(0), 4);
        checks.answers(SCENE, "load(1)", b -> b.load(1), 11);
        checks.answers(b -> {
            b.addPuppet(1, 1);
            b.addPuppet(1, 1);
            b.addPlayer(2, 0);
            b.enter(0, 0, 0, 0);
            b.leave(0, 10);
            b.enter(1, 5, 0, 1);
            b.leave(1, 20);
        }, "a beat with two puppets counts once: load(0)", b -> b.load(0), 20);
        checks.answers(ALWAYS_HELD, "all the time: load(0)", b -> b.load(0), 1000);
        checks.answers(b -> {
            b.addPuppet(1, 1);
            b.addPlayer(1, 0);
            b.enter(0, 999, 0, 0);
        }, "the last beat: load(0)", b -> b.load(0), 1);
        checks.answersEach(Scenes.FIVE_PLAYERS, "no puppets: load(#)", new int[] {0, 4}, CueBook::load, 0);
        checks.answers(ALWAYS_HELD.then(b -> {
            b.uncast();
            b.strike(0);
        }), "its stay struck out: load(0)", b -> b.load(0), 0);
        doc.says("Throws `IndexOutOfBoundsException` if there is no such player");
        checks.refusesEach(SCENE, "load(#)", NO_PLAYERS, CueBook::load, Checks.INDEX);
        checks.refusesEach(Scenes.FULL, "load(#)", NO_PLAYERS_OF_FULL, CueBook::load, Checks.INDEX);
        checks.refuses(Scenes.EMPTY, "load(0)", b -> b.load(0), Checks.INDEX);
    }
}
