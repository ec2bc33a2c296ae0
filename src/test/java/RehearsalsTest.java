import java.math.BigInteger;
import java.util.ArrayList;
import java.util.List;

/** Promises 22 to 25: rehearsals. */
final class RehearsalsTest {
    private static final int[] NO_CUES = Checks.outside(0, 3);
    private static final int[] NO_CUES_OF_FULL = Checks.outside(0, 39);

    /** Cues 0, 1 and 3; cue 2 was struck out. */
    private static final Checks.Scene SCENE = b -> {
        b.addPuppet(2, 1);
        b.addPuppet(2, 1);
        b.addPlayer(3, 4);
        b.enter(0, 10, 5, 1);
        b.move(0, 20, 7);
        b.shift(0, 30, 2);
        b.enter(1, 21, 7, 1);
        b.strike(2);
    };

    private static final Checks.Scene NOTED_NINETEEN_TIMES = SCENE.then(b -> {
        for (int i = 0; i < 19; i++) {
            b.note(1, i);
        }
    });

    private static final Checks.Scene NOTED_TWENTY_TIMES = NOTED_NINETEEN_TIMES.then(b -> b.note(1, 19));

    private final Checks checks = new Checks();
    private final Document doc = new Document(checks);

    public static void main(String[] args) {
        RehearsalsTest test = new RehearsalsTest();
        test.note();
        test.noteRefused();
        test.mean();
        test.worst();
        test.digest();
        test.digestOfParts();
        test.digestWraps();
        test.doc.end();
        test.checks.report("RehearsalsTest");
    }

    private static Checks.Scene noted(int cue, int... late) {
        return b -> {
            for (int l : late) {
                b.note(cue, l);
            }
        };
    }

    private void note() {
        doc.section("Promise 22: note");
        doc.says("Notes how a cue went in a rehearsal.");
        checks.answers(SCENE.then(noted(0, 7)), "mean(0)", b -> b.mean(0), 7.0);
        checks.answers(SCENE.then(noted(0, 7)), "not of another cue: mean(1)", b -> b.mean(1), 0.0);
        doc.says("- `cue`: the cue");
        checks.answersEach(SCENE, "note(#, 5), worst()", new int[] {0, 1, 3},
                (b, x) -> 10 * b.note(x, 5) + b.worst() - x, 10);
        checks.answersEach(Scenes.FORTY_CUES, "of 40: note(#, 5), worst()", new int[] {0, 39},
                (b, x) -> 10 * b.note(x, 5) + b.worst() - x, 10);
        doc.says("- `late`: by how many beats it was late; less than 0 if it was early");
        for (int late : new int[] {-50, -1, 0, 1, 50}) {
            checks.answers(SCENE.then(noted(0, late)), "mean(0)", b -> b.mean(0), (double) late);
        }
        doc.says("Returns how often this cue was noted.");
        CueBook book = new CueBook();
        SCENE.set(book);
        for (int i = 1; i <= 20; i++) {
            checks.same("note(0, 50)", book.note(0, 50), i);
            checks.same("of another cue: note(1, -50)", book.note(1, -50), i);
        }
        checks.same("mean(0)", book.mean(0), 50.0);
        checks.same("mean(1)", book.mean(1), -50.0);
    }

    private void noteRefused() {
        doc.says("Throws `IndexOutOfBoundsException` if there is no such cue");
        checks.refusesEach(SCENE, "note(#, 0)", NO_CUES, (b, x) -> b.note(x, 0), Checks.INDEX);
        checks.refusesEach(SCENE, "note(#, 51)", NO_CUES, (b, x) -> b.note(x, 51), Checks.INDEX);
        checks.refusesEach(Scenes.FULL, "note(#, 0)", NO_CUES_OF_FULL, (b, x) -> b.note(x, 0), Checks.INDEX);
        checks.refuses(Scenes.EMPTY, "note(0, 0)", b -> b.note(0, 0), Checks.INDEX);
        doc.says(", or it was struck out");
        checks.refuses(SCENE, "note(2, 0)", b -> b.note(2, 0), Checks.INDEX);
        checks.refuses(NOTED_TWENTY_TIMES.then(b -> b.strike(1)), "note(1, 0)", b -> b.note(1, 0), Checks.INDEX);
        doc.says("Throws `IllegalArgumentException` if late is not -50 to 50");
        checks.answersEach(SCENE, "note(0, #)", new int[] {-50, 50}, (b, x) -> b.note(0, x), 1);
        checks.refusesEach(SCENE, "note(0, #)", Checks.outside(-50, 50), (b, x) -> b.note(0, x), Checks.ARGUMENT);
        doc.says("Throws `IllegalStateException` if it was noted 20 times");
        checks.answers(NOTED_NINETEEN_TIMES, "for the 20th time: note(1, 0)", b -> b.note(1, 0), 20);
        checks.refuses(NOTED_TWENTY_TIMES, "for the 21st time: note(1, 0)", b -> b.note(1, 0), Checks.STATE);
        checks.refuses(NOTED_TWENTY_TIMES, "and too late: note(1, 51)", b -> b.note(1, 51), Checks.ARGUMENT);
        checks.answers(NOTED_TWENTY_TIMES, "another cue was not: note(0, 0)", b -> b.note(0, 0), 1);
        checks.answers(NOTED_NINETEEN_TIMES.then(b -> Checks.outcome(b, c -> c.note(1, 51))),
                "a refused note does not count: note(1, 50)", b -> b.note(1, 50), 20);
    }

    private void mean() {
        doc.section("Promise 23: mean");
        doc.says("- `cue`: a cue");
        checks.answers(Scenes.FULL, "of the full book: mean(0)", b -> b.mean(0), 50.0);
        checks.answers(Scenes.FULL, "of the full book: mean(39)", b -> b.mean(39), -50.0);
        doc.says("Returns the mean of what was noted of it");
        mean(-0.5, 3, -4);
        mean(1.0 / 3.0, 1, 0, 0);
        mean(-2.0 / 3.0, -1, -1, 0);
        mean(-7.0, -7);
        mean(0.0, 5, -5);
        mean(149.0 / 3.0, 50, 49, 50);
        mean(0.0, 0);
        checks.answers(NOTED_TWENTY_TIMES, "of 0 to 19: mean(1)", b -> b.mean(1), 9.5);
        doc.says("; 0 if nothing was.");
        checks.answers(SCENE, "mean(0)", b -> b.mean(0), 0.0);
        checks.answers(Scenes.FULL, "of the full book: mean(1)", b -> b.mean(1), 0.0);
        checks.answers(SCENE.then(b -> Checks.outcome(b, c -> c.note(0, 51))), "a refused note: mean(0)",
                b -> b.mean(0), 0.0);
        doc.says("Throws `IndexOutOfBoundsException` if there is no such cue");
        checks.refusesEach(SCENE, "mean(#)", NO_CUES, CueBook::mean, Checks.INDEX);
        checks.refusesEach(Scenes.FULL, "mean(#)", NO_CUES_OF_FULL, CueBook::mean, Checks.INDEX);
        checks.refuses(Scenes.EMPTY, "mean(0)", b -> b.mean(0), Checks.INDEX);
        doc.says(", or it was struck out");
        checks.refuses(SCENE, "mean(2)", b -> b.mean(2), Checks.INDEX);
        checks.refuses(NOTED_TWENTY_TIMES.then(b -> b.strike(1)), "mean(1)", b -> b.mean(1), Checks.INDEX);
    }

    private void mean(double due, int... late) {
        checks.answers(SCENE.then(noted(1, late)).then(noted(0, 13)), "mean(1)", b -> b.mean(1), due);
    }

    private void worst(String what, Checks.Scene notes, int due) {
        checks.answers(SCENE.then(notes), what + ": worst()", CueBook::worst, due);
    }

    private void worst() {
        doc.section("Promise 24: worst");
        doc.says("Returns the cue (not struck out");
        worst("the worst one struck out", noted(3, 50).then(noted(1, 1)).then(b -> b.strike(3)), 1);
        doc.says(", and noted at least once)");
        worst("noted once, to be in time", noted(3, 0), 3);
        worst("noted twice, to be in time", noted(1, 0, 0), 1);
        doc.says("whose sum of noted beats");
        worst("the first one", noted(0, 5).then(noted(1, 4)), 0);
        worst("the second one", noted(0, 5).then(noted(1, 6)), 1);
        worst("the sum, not the mean", noted(0, 10).then(noted(3, 4, 4, 4)), 3);
        worst("the sum, not the greatest", noted(0, 7, 7).then(noted(3, 13)), 0);
        doc.says(", without sign");
        worst("early is as bad as late", noted(0, 10).then(noted(3, -11)), 3);
        worst("early is no worse than late", noted(0, 10).then(noted(3, -9)), 0);
        doc.says(", each by itself");
        worst("early and late", noted(0, 10).then(noted(1, 6, -6)), 1);
        doc.says(", is greatest");
        checks.answers(Scenes.FORTY_CUES.then(b -> {
            for (int cue = 0; cue < 40; cue++) {
                b.note(cue, cue < 20 ? cue : 39 - cue);
            }
            b.note(30, -11);
        }), "of 40: worst()", CueBook::worst, 30);
        doc.says("; of several the one with the smallest number");
        worst("the same sum", noted(3, -12).then(noted(1, 4, 4, 4)), 1);
        worst("all of them", noted(3, 2).then(noted(1, 2)).then(noted(0, -2)), 0);
        worst("two in time", noted(3, 0).then(noted(1, 0, 0)), 1);
        checks.answers(Scenes.FULL, "of the full book: worst()", CueBook::worst, 0);
        doc.says("; -1 if there is none.");
        worst("nothing noted", b -> { }, -1);
        worst("the only one struck out", noted(3, 50).then(b -> b.strike(3)), -1);
        checks.answers(Scenes.EMPTY, "of the empty book: worst()", CueBook::worst, -1);
    }

    /** As the document says it, in a whole number of any size. */
    private static BigInteger wholeDigest(int... numbers) {
        BigInteger d = BigInteger.valueOf(277);
        for (int x : numbers) {
            d = d.multiply(BigInteger.valueOf(31)).add(BigInteger.valueOf(x));
        }
        return d;
    }

    private static long digestOf(int... numbers) {
        return wholeDigest(numbers).longValue();
    }

    private void digest(String what, Checks.Scene scene, int... numbers) {
        checks.answers(scene, what + ": digest()", CueBook::digest, digestOf(numbers));
    }

    private void digest() {
        doc.section("Promise 25: digest");
        doc.says("Computes a checksum.");
        Checks.Scene noted = SCENE.then(noted(0, 3, -3, 0)).then(noted(3, 7));
        digest("of the scene", noted,
                2, 1, 10, 1000, 0, 1, 21, 1000, -1,
                1, 990,
                4, 0, 0, 10, 5, 1, 3, 1, 0, 20, 7, -1, 0, 0, 1, 21, 7, 1, 1,
                1);
        digest("of a changed scene", noted.then(b -> {
            b.digest();
            b.addPlayer(20, 19);
            b.leave(0, 22);
            b.enter(0, 22, 0, 0);
            b.strike(3);
        }),
                2, 2, 10, 22, 0, 22, 1000, 1, 0,
                2, 12, 978,
                6, 0, 0, 10, 5, 1, 3, 1, 0, 20, 7, -1, 0, 3, 0, 22, -1, -1, 0, 0, 0, 22, 0, 0, 0,
                0);
        doc.says("A number d starts with 277; for each of the following numbers x, d becomes d * 31 + x");
        digest("of the empty book", Scenes.EMPTY, 0, 0, 0, 0);
        checks.answers(Scenes.EMPTY, "277 * 31^4: digest()", CueBook::digest, 277L * 31 * 31 * 31 * 31);
    }

    private void digestOfParts() {
        doc.says(": the number of puppets");
        digest("no stays", Scenes.ONE_PUPPET, 1, 0, 0, 0, 0);
        doc.says(", and for each of them the number of its stays, and for each of these what stay() tells,"
                + " in its order");
        Checks.Scene stays = b -> {
            b.addPuppet(1, 1);
            b.addPuppet(1, 1);
            b.enter(1, 3, 2, 1);
            b.leave(1, 5);
            b.enter(1, 8, 4, 3);
        };
        digest("nobody", stays, 2, 0, 2, 3, 5, -1, 8, 1000, -1, 0,
                3, 0, 1, 3, 2, 1, 0, 3, 1, 5, -1, -1, 0, 0, 1, 8, 4, 3, 0, 0);
        doc.says("; the number of players, and for each of them its load");
        digest("a player", stays.then(b -> b.addPlayer(1, 0)), 2, 0, 2, 3, 5, 0, 8, 1000, 0, 1, 994,
                3, 0, 1, 3, 2, 1, 0, 3, 1, 5, -1, -1, 0, 0, 1, 8, 4, 3, 0, 0);
        digest("players without puppets", Scenes.FIVE_PLAYERS, 0, 5, 0, 0, 0, 0, 0, 0, 0);
        doc.says("; the number of cues that were written, and for each of those that were not struck out what"
                + " cue() tells, in its order, and how often it was noted");
        digest("a cue struck out", stays.then(noted(0, 1, 1)).then(b -> b.strike(2)), 2, 0, 1, 3, 5, -1, 0,
                3, 0, 1, 3, 2, 1, 2, 3, 1, 5, -1, -1, 0, 0);
        digest("all cues struck out", stays.then(b -> {
            b.strike(2);
            b.strike(1);
            b.strike(0);
        }), 2, 0, 0, 0, 3, 0);
        doc.says("; the number of clashes.");
        digest("all pairs of four", b -> {
            for (int i = 0; i < 4; i++) {
                b.addPuppet(1, 1);
                b.enter(i, 0, 0, 0);
            }
        }, 4, 1, 0, 1000, -1, 1, 0, 1000, -1, 1, 0, 1000, -1, 1, 0, 1000, -1, 0,
                4, 0, 0, 0, 0, 0, 0, 0, 1, 0, 0, 0, 0, 0, 2, 0, 0, 0, 0, 0, 3, 0, 0, 0, 0, 6);
    }

    private void digestWraps() {
        doc.says(", which wraps around as a 64-bit integer");
        for (int puppets = 0; puppets <= 8; puppets++) {
            int n = puppets;
            int[] numbers = new int[4 + n];
            numbers[0] = n;
            digest(n + " puppets, so " + numbers.length + " numbers", b -> {
                for (int i = 0; i < n; i++) {
                    b.addPuppet(1, 1);
                }
            }, numbers);
        }
        checks.answers(b -> {
            for (int i = 0; i < 7; i++) {
                b.addPuppet(1, 1);
            }
        }, "11 numbers do not wrap: digest()", CueBook::digest, wholeDigest(7, 0, 0, 0, 0, 0, 0, 0, 0, 0, 0));
        BigInteger twelve = wholeDigest(8, 0, 0, 0, 0, 0, 0, 0, 0, 0, 0, 0);
        checks.same("12 numbers come to 2^63 and more", twelve.bitLength() > 63, true);
        checks.answers(Scenes.EIGHT_PUPPETS, "12 numbers wrap: digest()", CueBook::digest, twelve.longValue());
        digest("of the full book", Scenes.FULL, fullBook());
        doc.says("Returns d.");
        CueBook book = new CueBook();
        Scenes.FULL.set(book);
        checks.same("digest()", book.digest(), digestOf(fullBook()));
        checks.same("once more: digest()", book.digest(), digestOf(fullBook()));
    }

    /** The numbers of the full book's digest, found by hand. */
    private static int[] fullBook() {
        List<Integer> list = new ArrayList<>(List.of(8));
        for (int p = 0; p < 8; p++) {
            int player = p < 4 ? p : -1;
            list.addAll(List.of(2, 100 * p, 100 * p + 60, player, 100 * p + 70, 1000, player));
        }
        list.addAll(List.of(5, 990, 890, 790, 690, 0, 40));
        for (int p = 0; p < 8; p++) {
            list.addAll(List.of(0, p, 100 * p, 2 * p, p % 4, p == 0 ? 20 : 0));
            list.addAll(List.of(1, p, 100 * p + 10, 9, -1, 0));
            list.addAll(List.of(3, p, 100 * p + 60, -1, -1, 0));
            list.addAll(List.of(0, p, 100 * p + 70, 9, 0, 0));
            list.addAll(List.of(2, p, 100 * p + 80, -1, p % 4, p == 7 ? 20 : 0));
        }
        list.add(13);
        return list.stream().mapToInt(Integer::intValue).toArray();
    }
}
