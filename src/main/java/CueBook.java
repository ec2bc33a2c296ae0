import java.util.ArrayList;
import java.util.Arrays;

/** A cue book for a puppet theatre: who is where at each beat, and whose hands hold it. */
public final class CueBook {
    private static final int BEATS = 1000;
    private static final int PLACES = 20;
    private static final int TRACKS = 4;
    private static final int MOST_PUPPETS = 8;
    private static final int MOST_PLAYERS = 5;
    private static final int MOST_CUES = 40;
    private static final int MOST_WEIGHT = 9;
    private static final int MOST_STRENGTH = 20;
    private static final int HANDS_OF_A_PLAYER = 2;
    private static final int MOST_LATE = 50;
    private static final int MOST_NOTES = 20;

    private static final int ENTER = 0;
    private static final int MOVE = 1;
    private static final int SHIFT = 2;
    private static final int LEAVE = 3;

    private static final int WHATS_OF_A_CUE = 5;
    private static final int WHATS_OF_A_STAY = 3;

    /** Answered where there is no place, track, player, beat or cue. */
    private static final int NONE = -1;

    private final ArrayList<Puppet> puppets = new ArrayList<>();
    private final ArrayList<Player> players = new ArrayList<>();
    /** All cues that were written, those that were struck out too: a number is not used again. */
    private final ArrayList<Cue> cues = new ArrayList<>();
    /** All stays in the order in which the casting goes through them. */
    private final ArrayList<Stay> castingOrder = new ArrayList<>();

    private int struckCues = 0;
    /** The casting and the clashes are found when they are asked for, and kept until a change. */
    private boolean castingStands = false;
    private boolean clashesStand = false;
    private int clashingPairs = 0;

    public CueBook() {
    }

    // ---- puppets, players and cues

    public int addPuppet(int weight, int hands) throws IllegalArgumentException, IllegalStateException {
        if (weight < 1 || weight > MOST_WEIGHT) {
            throw new IllegalArgumentException("the weight is not 1 to 9");
        }
        if (hands < 1 || hands > HANDS_OF_A_PLAYER) {
            throw new IllegalArgumentException("the hands are not 1 or 2");
        }
        if (puppets.size() >= MOST_PUPPETS) {
            throw new IllegalStateException("there are 8 puppets");
        }
        int number = puppets.size();
        puppets.add(new Puppet(number, weight, hands));
        return number;
    }

    public int addPlayer(int strength, int place) throws IllegalArgumentException, IllegalStateException {
        if (strength < 1 || strength > MOST_STRENGTH) {
            throw new IllegalArgumentException("the strength is not 1 to 20");
        }
        requirePlace(place);
        if (players.size() >= MOST_PLAYERS) {
            throw new IllegalStateException("there are 5 players");
        }
        int number = players.size();
        players.add(new Player(strength, place));
        castingStands = false;
        return number;
    }

    public int enter(int puppet, int beat, int place, int track)
            throws IndexOutOfBoundsException, IllegalArgumentException, IllegalStateException {
        Puppet actor = puppetNumbered(puppet);
        requireBeat(beat);
        requirePlace(place);
        requireTrack(track);
        return write(new Cue(ENTER, actor, beat, place, track));
    }

    public int move(int puppet, int beat, int place)
            throws IndexOutOfBoundsException, IllegalArgumentException, IllegalStateException {
        Puppet actor = puppetNumbered(puppet);
        requireBeat(beat);
        requirePlace(place);
        return write(new Cue(MOVE, actor, beat, place, NONE));
    }

    public int shift(int puppet, int beat, int track)
            throws IndexOutOfBoundsException, IllegalArgumentException, IllegalStateException {
        Puppet actor = puppetNumbered(puppet);
        requireBeat(beat);
        requireTrack(track);
        return write(new Cue(SHIFT, actor, beat, NONE, track));
    }

    public int leave(int puppet, int beat)
            throws IndexOutOfBoundsException, IllegalArgumentException, IllegalStateException {
        Puppet actor = puppetNumbered(puppet);
        requireBeat(beat);
        return write(new Cue(LEAVE, actor, beat, NONE, NONE));
    }

    public int strike(int cue) throws IndexOutOfBoundsException, IllegalStateException {
        Cue struck = cueNumbered(cue);
        if (!struck.puppet.takesOut(struck)) {
            throw new IllegalStateException("another cue would not be right without it");
        }
        struck.isStruck = true;
        struckCues++;
        forgetWhatWasFound();
        return struck.puppet.script.size();
    }

    public int count(int what) throws IndexOutOfBoundsException {
        switch (what) {
            case 0:
                return puppets.size();
            case 1:
                return players.size();
            case 2:
                return cues.size();
            case 3:
                return struckCues;
            default:
                throw new IndexOutOfBoundsException("what is not 0 to 3");
        }
    }

    public int cue(int cue, int what) throws IndexOutOfBoundsException {
        return tellOfCue(cueNumbered(cue), what);
    }

    // ---- the stage

    public int place(int puppet, int beat) throws IndexOutOfBoundsException, IllegalArgumentException {
        Puppet actor = puppetNumbered(puppet);
        requireBeat(beat);
        return actor.placeAt[beat];
    }

    public int track(int puppet, int beat) throws IndexOutOfBoundsException, IllegalArgumentException {
        Puppet actor = puppetNumbered(puppet);
        requireBeat(beat);
        return actor.trackAt[beat];
    }

    public int onStage(int beat) throws IllegalArgumentException {
        requireBeat(beat);
        int set = 0;
        for (int i = 0; i < puppets.size(); i++) {
            Puppet puppet = puppets.get(i);
            if (puppet.placeAt[beat] != NONE) {
                set |= puppet.bit;
            }
        }
        return set;
    }

    public int clash(int a, int b) throws IndexOutOfBoundsException, IllegalArgumentException {
        Puppet one = puppetNumbered(a);
        Puppet other = puppetNumbered(b);
        if (a == b) {
            throw new IllegalArgumentException("the puppets are the same");
        }
        return firstClash(one, other);
    }

    public int clashes() {
        if (!clashesStand) {
            clashingPairs = countClashingPairs();
            clashesStand = true;
        }
        return clashingPairs;
    }

    public int beats(int puppet) throws IndexOutOfBoundsException {
        ArrayList<Stay> list = puppetNumbered(puppet).stayList;
        int sum = 0;
        for (int i = 0; i < list.size(); i++) {
            Stay stay = list.get(i);
            sum += stay.end - stay.begin;
        }
        return sum;
    }

    // ---- casting

    public int stays(int puppet) throws IndexOutOfBoundsException {
        return puppetNumbered(puppet).stayList.size();
    }

    public int stay(int puppet, int stay, int what) throws IndexOutOfBoundsException {
        ArrayList<Stay> list = puppetNumbered(puppet).stayList;
        if (stay < 0 || stay >= list.size()) {
            throw new IndexOutOfBoundsException("no such stay");
        }
        findCasting();
        return tellOfStay(list.get(stay), what);
    }

    public int uncast() {
        findCasting();
        int nobodys = 0;
        for (int i = 0; i < castingOrder.size(); i++) {
            if (castingOrder.get(i).player == NONE) {
                nobodys++;
            }
        }
        return nobodys;
    }

    public int hands(int player, int beat) throws IndexOutOfBoundsException, IllegalArgumentException {
        Player holder = playerNumbered(player);
        requireBeat(beat);
        findCasting();
        return holder.heldAt[beat];
    }

    public int load(int player) throws IndexOutOfBoundsException {
        Player holder = playerNumbered(player);
        findCasting();
        return holder.busyBeats();
    }

    // ---- rehearsals

    public int note(int cue, int late)
            throws IndexOutOfBoundsException, IllegalArgumentException, IllegalStateException {
        Cue noted = cueNumbered(cue);
        if (late < -MOST_LATE || late > MOST_LATE) {
            throw new IllegalArgumentException("late is not -50 to 50");
        }
        if (noted.notes >= MOST_NOTES) {
            throw new IllegalStateException("it was noted 20 times");
        }
        noted.notes++;
        noted.sumLate += late;
        noted.sumOff += Math.abs(late);
        return noted.notes;
    }

    public double mean(int cue) throws IndexOutOfBoundsException {
        Cue noted = cueNumbered(cue);
        if (noted.notes == 0) {
            return 0;
        }
        return (double) noted.sumLate / noted.notes;
    }

    public int worst() {
        int worst = NONE;
        int most = -1;
        for (int i = 0; i < cues.size(); i++) {
            Cue cue = cues.get(i);
            if (!cue.isStruck && cue.notes > 0 && cue.sumOff > most) {
                worst = i;
                most = cue.sumOff;
            }
        }
        return worst;
    }

    public long digest() {
        findCasting();
        long d = 277;
        d = digestWith(d, puppets.size());
        for (int i = 0; i < puppets.size(); i++) {
            d = digestWithStays(d, puppets.get(i).stayList);
        }
        d = digestWith(d, players.size());
        for (int i = 0; i < players.size(); i++) {
            d = digestWith(d, players.get(i).busyBeats());
        }
        d = digestWith(d, cues.size());
        for (int i = 0; i < cues.size(); i++) {
            d = digestWithCue(d, cues.get(i));
        }
        return digestWith(d, clashes());
    }

    // What the calls have in common.

    private Puppet puppetNumbered(int number) {
        if (number < 0 || number >= puppets.size()) {
            throw new IndexOutOfBoundsException("no such puppet");
        }
        return puppets.get(number);
    }

    private Player playerNumbered(int number) {
        if (number < 0 || number >= players.size()) {
            throw new IndexOutOfBoundsException("no such player");
        }
        return players.get(number);
    }

    private Cue cueNumbered(int number) {
        if (number < 0 || number >= cues.size()) {
            throw new IndexOutOfBoundsException("no such cue");
        }
        Cue cue = cues.get(number);
        if (cue.isStruck) {
            throw new IndexOutOfBoundsException("the cue was struck out");
        }
        return cue;
    }

    private static void requireBeat(int beat) {
        if (beat < 0 || beat >= BEATS) {
            throw new IllegalArgumentException("the beat is not 0 to 999");
        }
    }

    private static void requirePlace(int place) {
        if (place < 0 || place >= PLACES) {
            throw new IllegalArgumentException("the place is not 0 to 19");
        }
    }

    private static void requireTrack(int track) {
        if (track < 0 || track >= TRACKS) {
            throw new IllegalArgumentException("the track is not 0 to 3");
        }
    }

    private int write(Cue cue) {
        if (cues.size() >= MOST_CUES) {
            throw new IllegalStateException("there are 40 cues");
        }
        if (!cue.puppet.takesIn(cue)) {
            throw new IllegalStateException("it, or a cue behind it, would not be right");
        }
        int number = cues.size();
        cues.add(cue);
        forgetWhatWasFound();
        return number;
    }

    private void forgetWhatWasFound() {
        castingStands = false;
        clashesStand = false;
    }

    private static int tellOfCue(Cue cue, int what) {
        switch (what) {
            case 0:
                return cue.kind;
            case 1:
                return cue.puppet.number;
            case 2:
                return cue.beat;
            case 3:
                return cue.place;
            case 4:
                return cue.track;
            default:
                throw new IndexOutOfBoundsException("what is not 0 to 4");
        }
    }

    private static int tellOfStay(Stay stay, int what) {
        switch (what) {
            case 0:
                return stay.begin;
            case 1:
                return stay.end;
            case 2:
                return stay.player;
            default:
                throw new IndexOutOfBoundsException("what is not 0 to 2");
        }
    }

    private static int distance(int a, int b) {
        return Math.abs(a - b);
    }

    // Clashes.

    private int countClashingPairs() {
        int pairs = 0;
        for (int a = 0; a < puppets.size(); a++) {
            for (int b = a + 1; b < puppets.size(); b++) {
                if (firstClash(puppets.get(a), puppets.get(b)) != NONE) {
                    pairs++;
                }
            }
        }
        return pairs;
    }

    private static int firstClash(Puppet a, Puppet b) {
        for (int beat = 0; beat < BEATS; beat++) {
            if (areOnOneTrack(a, b, beat)
                    && (a.placeAt[beat] == b.placeAt[beat] || exchangePlaces(a, b, beat))) {
                return beat;
            }
        }
        return NONE;
    }

    private static boolean areOnOneTrack(Puppet a, Puppet b, int beat) {
        return a.trackAt[beat] != NONE && a.trackAt[beat] == b.trackAt[beat];
    }

    private static boolean exchangePlaces(Puppet a, Puppet b, int beat) {
        int next = beat + 1;
        return next < BEATS
                && areOnOneTrack(a, b, next)
                && a.placeAt[beat] == b.placeAt[next]
                && b.placeAt[beat] == a.placeAt[next];
    }

    // The casting.

    private void findCasting() {
        if (castingStands) {
            return;
        }
        for (int i = 0; i < players.size(); i++) {
            players.get(i).putDownAll();
        }
        orderStays();
        for (int i = 0; i < castingOrder.size(); i++) {
            namePlayer(castingOrder.get(i));
        }
        castingStands = true;
    }

    private void orderStays() {
        castingOrder.clear();
        for (int i = 0; i < puppets.size(); i++) {
            ArrayList<Stay> list = puppets.get(i).stayList;
            for (int k = 0; k < list.size(); k++) {
                putInOrder(list.get(k));
            }
        }
    }

    /** Puts it behind those of the same beat: they are of puppets with smaller numbers. */
    private void putInOrder(Stay stay) {
        int at = castingOrder.size();
        while (at > 0 && castingOrder.get(at - 1).begin > stay.begin) {
            at--;
        }
        castingOrder.add(at, stay);
    }

    private void namePlayer(Stay stay) {
        stay.player = NONE;
        for (int i = 0; i < players.size(); i++) {
            Player player = players.get(i);
            if (canDo(player, stay)) {
                player.take(stay);
                stay.player = i;
                return;
            }
        }
    }

    /**
     * Of the ways that the player has to walk, only the one to the beginning of the stay is new:
     * its other stays begin no later, so what it holds when this one is over, it has walked with
     * during this one, at the same places.
     */
    private boolean canDo(Player player, Stay stay) {
        if (!canComeToBeginning(player, stay)) {
            return false;
        }
        for (int beat = stay.begin; beat < stay.end; beat++) {
            if (!canHold(player, stay.puppet, beat)) {
                return false;
            }
        }
        return true;
    }

    private boolean canComeToBeginning(Player player, Stay stay) {
        int goal = stay.puppet.placeAt[stay.begin];
        for (int beat = stay.begin - 1; beat >= 0; beat--) {
            if (player.heldAt[beat] != 0) {
                return distance(placeOfHeld(player, beat), goal) <= stay.begin - beat;
            }
        }
        return distance(player.placeAtFirst, goal) <= stay.begin;
    }

    private int placeOfHeld(Player player, int beat) {
        for (int i = 0; i < puppets.size(); i++) {
            if (player.holds(puppets.get(i), beat)) {
                return puppets.get(i).placeAt[beat];
            }
        }
        return player.placeAtFirst;
    }

    private boolean canHold(Player player, Puppet puppet, int beat) {
        if (player.heldAt[beat] == 0) {
            return puppet.weight <= player.strength;
        }
        int hands = puppet.handsNeeded;
        int weight = puppet.weight;
        for (int i = 0; i < puppets.size(); i++) {
            Puppet other = puppets.get(i);
            if (player.holds(other, beat)) {
                hands += other.handsNeeded;
                weight += other.weight;
                if (other.placeAt[beat] != puppet.placeAt[beat]) {
                    return false;
                }
            }
        }
        return hands <= HANDS_OF_A_PLAYER && weight <= player.strength;
    }

    // The digest.

    private static long digestWith(long d, int x) {
        return d * 31 + x;
    }

    private static long digestWithStays(long d, ArrayList<Stay> list) {
        long sum = digestWith(d, list.size());
        for (int i = 0; i < list.size(); i++) {
            for (int what = 0; what < WHATS_OF_A_STAY; what++) {
                sum = digestWith(sum, tellOfStay(list.get(i), what));
            }
        }
        return sum;
    }

    private static long digestWithCue(long d, Cue cue) {
        if (cue.isStruck) {
            return d;
        }
        long sum = d;
        for (int what = 0; what < WHATS_OF_A_CUE; what++) {
            sum = digestWith(sum, tellOfCue(cue, what));
        }
        return digestWith(sum, cue.notes);
    }

    private static final class Cue {
        final int kind;
        final Puppet puppet;
        final int beat;
        final int place;
        final int track;
        boolean isStruck = false;
        int notes = 0;
        int sumLate = 0;
        /** The sum without signs: early and late notes do not make up for each other. */
        int sumOff = 0;

        Cue(int kind, Puppet puppet, int beat, int place, int track) {
            this.kind = kind;
            this.puppet = puppet;
            this.beat = beat;
            this.place = place;
            this.track = track;
        }
    }

    private static final class Stay {
        final Puppet puppet;
        final int begin;
        /** The beat behind the last one. */
        int end = BEATS;
        int player = NONE;

        Stay(Puppet puppet, int begin) {
            this.puppet = puppet;
            this.begin = begin;
        }
    }

    private static final class Player {
        final int strength;
        final int placeAtFirst;
        /** For each beat the set of the puppets that the casting puts in its hands. */
        final int[] heldAt = new int[BEATS];

        Player(int strength, int placeAtFirst) {
            this.strength = strength;
            this.placeAtFirst = placeAtFirst;
        }

        boolean holds(Puppet puppet, int beat) {
            return (heldAt[beat] & puppet.bit) != 0;
        }

        void putDownAll() {
            Arrays.fill(heldAt, 0);
        }

        void take(Stay stay) {
            for (int beat = stay.begin; beat < stay.end; beat++) {
                heldAt[beat] |= stay.puppet.bit;
            }
        }

        int busyBeats() {
            int busy = 0;
            for (int beat = 0; beat < BEATS; beat++) {
                if (heldAt[beat] != 0) {
                    busy++;
                }
            }
            return busy;
        }
    }

    private static final class Puppet {
        final int number;
        /** What it counts in a set of puppets. */
        final int bit;
        final int weight;
        final int handsNeeded;
        /** Its cues that were not struck out, in the order in which they come. */
        final ArrayList<Cue> script = new ArrayList<>();
        final ArrayList<Stay> stayList = new ArrayList<>();
        final int[] placeAt = new int[BEATS];
        final int[] trackAt = new int[BEATS];

        Puppet(int number, int weight, int handsNeeded) {
            this.number = number;
            this.bit = 1 << number;
            this.weight = weight;
            this.handsNeeded = handsNeeded;
            Arrays.fill(placeAt, NONE);
            Arrays.fill(trackAt, NONE);
        }

        /** Puts a new cue into the script; answers false, and leaves it out, if it does not fit. */
        boolean takesIn(Cue cue) {
            int at = script.size();
            while (at > 0 && script.get(at - 1).beat > cue.beat) {
                at--;
            }
            script.add(at, cue);
            if (!isScriptRight()) {
                script.remove(at);
                return false;
            }
            playScript();
            return true;
        }

        /** Takes a cue out of the script; answers false, and leaves it in, if another needs it. */
        boolean takesOut(Cue cue) {
            int at = script.size() - 1;
            while (at >= 0 && script.get(at) != cue) {
                at--;
            }
            if (at < 0) {
                return false;
            }
            script.remove(at);
            if (!isScriptRight()) {
                script.add(at, cue);
                return false;
            }
            playScript();
            return true;
        }

        private boolean isScriptRight() {
            Path path = new Path();
            for (int i = 0; i < script.size(); i++) {
                Cue cue = script.get(i);
                if (!path.allows(cue)) {
                    return false;
                }
                path.follow(cue);
            }
            return true;
        }

        private void playScript() {
            stayList.clear();
            Path path = new Path();
            int played = 0;
            for (int i = 0; i < script.size(); i++) {
                Cue cue = script.get(i);
                playBeats(path, played, cue.beat);
                played = cue.beat;
                path.follow(cue);
                recordStay(cue);
            }
            playBeats(path, played, BEATS);
        }

        private void playBeats(Path path, int from, int to) {
            for (int beat = from; beat < to; beat++) {
                placeAt[beat] = path.placeAtBeat(beat);
                trackAt[beat] = path.trackNow();
            }
        }

        private void recordStay(Cue cue) {
            if (cue.kind == ENTER) {
                stayList.add(new Stay(this, cue.beat));
            } else if (cue.kind == LEAVE && !stayList.isEmpty()) {
                stayList.get(stayList.size() - 1).end = cue.beat;
            }
        }
    }

    /** Where a puppet is while one goes through its cues in their order. */
    private static final class Path {
        private boolean isOnStage = false;
        private int enteredAt = 0;
        private int track = NONE;
        /** The latest way: from a place at a beat, to a place at a beat. */
        private int fromPlace = NONE;
        private int toPlace = NONE;
        private int fromBeat = 0;
        private int toBeat = 0;

        boolean allows(Cue cue) {
            if (cue.kind == ENTER) {
                return !isOnStage;
            }
            if (!isOnStage || cue.beat < toBeat) {
                return false;
            }
            if (cue.kind == MOVE) {
                return cue.beat + distance(toPlace, cue.place) < BEATS;
            }
            return cue.kind != LEAVE || cue.beat > enteredAt;
        }

        void follow(Cue cue) {
            switch (cue.kind) {
                case ENTER:
                    isOnStage = true;
                    enteredAt = cue.beat;
                    track = cue.track;
                    walk(cue.place, cue.place, cue.beat);
                    break;
                case MOVE:
                    walk(toPlace, cue.place, cue.beat);
                    break;
                case SHIFT:
                    track = cue.track;
                    break;
                default:
                    isOnStage = false;
                    break;
            }
        }

        private void walk(int from, int to, int beat) {
            fromPlace = from;
            toPlace = to;
            fromBeat = beat;
            toBeat = beat + distance(from, to);
        }

        int placeAtBeat(int beat) {
            if (!isOnStage) {
                return NONE;
            }
            if (beat >= toBeat) {
                return toPlace;
            }
            int walked = beat - fromBeat;
            return fromPlace < toPlace ? fromPlace + walked : fromPlace - walked;
        }

        int trackNow() {
            return isOnStage ? track : NONE;
        }
    }
}
