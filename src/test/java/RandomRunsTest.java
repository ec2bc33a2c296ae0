import java.util.Random;

/** Runs of 512 random calls, the same on a CueBook and on a PlainBook: all answers are the same. */
final class RandomRunsTest {
    private static final int CALLS = 512;

    private final Checks checks = new Checks();
    private Random random;
    private CueBook book;
    private PlainBook plain;
    private int seed;
    /** How far apart the beats and places of a run lie: narrow runs clash and share hands often. */
    private int beatSpan;
    private int firstBeat;
    private int placeSpan;
    private int trackSpan;
    private int changesOfHundred;

    public static void main(String[] args) {
        int seeds = args.length > 0 ? Integer.parseInt(args[0]) : 250;
        RandomRunsTest test = new RandomRunsTest();
        for (int seed = 1; seed <= seeds; seed++) {
            test.run(seed);
        }
        test.checks.report("RandomRunsTest");
    }

    private void run(int seed) {
        this.seed = seed;
        random = new Random(seed);
        book = new CueBook();
        plain = new PlainBook();
        int[] spans = {12, 40, 150, 1000};
        beatSpan = spans[random.nextInt(spans.length)];
        firstBeat = random.nextBoolean() ? 0 : 1000 - beatSpan;
        placeSpan = 2 + random.nextInt(19);
        trackSpan = 1 + random.nextInt(4);
        changesOfHundred = 15 + random.nextInt(45);
        int puppets = random.nextInt(9);
        int players = random.nextInt(6);
        for (int call = 0; call < CALLS; call++) {
            if (call < puppets) {
                addPuppet();
            } else if (call < puppets + players) {
                addPlayer();
            } else if (random.nextInt(100) < changesOfHundred) {
                change();
            } else {
                ask();
            }
        }
    }

    private void both(String what, Checks.Call call, PlainBook.Call plainCall) {
        checks.same("seed " + seed + ": " + what,
                Checks.outcome(book, call), PlainBook.outcome(plain, plainCall));
    }

    private boolean seldom() {
        return random.nextInt(25) == 0;
    }

    private int among(int size) {
        if (seldom()) return size;
        if (seldom()) return -1 - random.nextInt(3);
        return size == 0 ? 0 : random.nextInt(size);
    }

    private int beat() {
        if (seldom()) return new int[] {-1, 1000, Integer.MIN_VALUE, Integer.MAX_VALUE}[random.nextInt(4)];
        if (seldom()) return random.nextBoolean() ? 0 : 999;
        return firstBeat + random.nextInt(beatSpan);
    }

    private int place() {
        if (seldom()) return new int[] {-1, 20, 19, Integer.MIN_VALUE}[random.nextInt(4)];
        return random.nextInt(placeSpan);
    }

    private int track() {
        if (seldom()) return new int[] {-1, 4, 3, Integer.MAX_VALUE}[random.nextInt(4)];
        return random.nextInt(trackSpan);
    }

    private void addPuppet() {
        int weight = seldom() ? random.nextInt(2) * 10 : 1 + random.nextInt(random.nextBoolean() ? 3 : 9);
        int hands = seldom() ? random.nextInt(2) * 3 : 1 + random.nextInt(5) / 4;
        both("addPuppet(" + weight + ", " + hands + ")",
                b -> b.addPuppet(weight, hands), b -> b.addPuppet(weight, hands));
    }

    private void addPlayer() {
        int strength = seldom() ? random.nextInt(2) * 21 : 1 + random.nextInt(20);
        int place = place();
        both("addPlayer(" + strength + ", " + place + ")",
                b -> b.addPlayer(strength, place), b -> b.addPlayer(strength, place));
    }

    private void change() {
        int what = random.nextInt(100);
        if (what < 3) {
            addPuppet();
        } else if (what < 6) {
            addPlayer();
        } else if (what < 22) {
            note();
        } else if (what < 30) {
            int cue = among(plain.count(2));
            both("strike(" + cue + ")", b -> b.strike(cue), b -> b.strike(cue));
        } else {
            write();
        }
    }

    private void note() {
        int cue = random.nextBoolean() ? among(plain.count(2)) : 0;
        int late = seldom() ? 102 * random.nextInt(2) - 51 : random.nextInt(101) - 50;
        both("note(" + cue + ", " + late + ")", b -> b.note(cue, late), b -> b.note(cue, late));
    }

    private void write() {
        int p = among(plain.count(0));
        int beat = beat();
        int place = place();
        int track = track();
        int kind = likelyKind(p, beat);
        if (kind == 0) {
            both("enter(" + p + ", " + beat + ", " + place + ", " + track + ")",
                    b -> b.enter(p, beat, place, track), b -> b.enter(p, beat, place, track));
        } else if (kind == 1) {
            both("move(" + p + ", " + beat + ", " + place + ")",
                    b -> b.move(p, beat, place), b -> b.move(p, beat, place));
        } else if (kind == 2) {
            both("shift(" + p + ", " + beat + ", " + track + ")",
                    b -> b.shift(p, beat, track), b -> b.shift(p, beat, track));
        } else {
            both("leave(" + p + ", " + beat + ")", b -> b.leave(p, beat), b -> b.leave(p, beat));
        }
    }

    private int likelyKind(int puppet, int beat) {
        boolean known = puppet >= 0 && puppet < plain.count(0) && beat >= 0 && beat < 1000;
        if (!known || random.nextInt(6) == 0) return random.nextInt(4);
        return plain.place(puppet, beat) < 0 ? 0 : 1 + random.nextInt(3);
    }

    private void ask() {
        int p = among(plain.count(0));
        int q = among(plain.count(0));
        int player = among(plain.count(1));
        int cue = among(plain.count(2));
        int beat = beat();
        int number = among(2);
        switch (random.nextInt(17)) {
            case 0:
                int total = among(4);
                both("count(" + total + ")", b -> b.count(total), b -> b.count(total));
                break;
            case 1:
                int what = among(5);
                both("cue(" + cue + ", " + what + ")", b -> b.cue(cue, what), b -> b.cue(cue, what));
                break;
            case 2:
                both("place(" + p + ", " + beat + ")", b -> b.place(p, beat), b -> b.place(p, beat));
                break;
            case 3:
                both("track(" + p + ", " + beat + ")", b -> b.track(p, beat), b -> b.track(p, beat));
                break;
            case 4:
                both("onStage(" + beat + ")", b -> b.onStage(beat), b -> b.onStage(beat));
                break;
            case 5:
            case 6:
                both("clash(" + p + ", " + q + ")", b -> b.clash(p, q), b -> b.clash(p, q));
                break;
            case 7:
                both("clashes()", CueBook::clashes, PlainBook::clashes);
                break;
            case 8:
                both("beats(" + p + ")", b -> b.beats(p), b -> b.beats(p));
                break;
            case 9:
                both("stays(" + p + ")", b -> b.stays(p), b -> b.stays(p));
                break;
            case 10:
                int part = among(3);
                both("stay(" + p + ", " + number + ", " + part + ")",
                        b -> b.stay(p, number, part), b -> b.stay(p, number, part));
                break;
            case 11:
                both("uncast()", CueBook::uncast, PlainBook::uncast);
                break;
            case 12:
                both("hands(" + player + ", " + beat + ")",
                        b -> b.hands(player, beat), b -> b.hands(player, beat));
                break;
            case 13:
                both("load(" + player + ")", b -> b.load(player), b -> b.load(player));
                break;
            case 14:
                both("mean(" + cue + ")", b -> b.mean(cue), b -> b.mean(cue));
                break;
            case 15:
                both("worst()", CueBook::worst, PlainBook::worst);
                break;
            default:
                both("digest()", CueBook::digest, PlainBook::digest);
                break;
        }
    }
}
