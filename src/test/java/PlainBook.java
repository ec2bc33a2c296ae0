import java.util.ArrayList;
import java.util.List;

/**
 * The document once more, as plainly as it can be said and with no thought of cost: the stage is
 * played beat by beat, and each player's whole time is looked at for each stay. RandomRunsTest and
 * TermsTest hold CueBook against it. It shares no line with CueBook.
 */
final class PlainBook {
    interface Call {
        Object on(PlainBook book);
    }

    static String outcome(PlainBook book, Call call) {
        try {
            return String.valueOf(call.on(book));
        } catch (RuntimeException e) {
            return "throws." + e.getClass().getSimpleName();
        }
    }

    private static final class Cue {
        int kind;
        int puppet;
        int beat;
        int place;
        int track;
        boolean struck;
        List<Integer> notes = new ArrayList<>();
    }

    private static final class Stay {
        int puppet;
        int first;
        int behind;
        int player;
    }

    private final List<int[]> puppets = new ArrayList<>();
    private final List<int[]> players = new ArrayList<>();
    private final List<Cue> cues = new ArrayList<>();
    private List<Stay> stays = null;
    private final int[][][] stages = new int[8][][];

    private static RuntimeException index() {
        return new IndexOutOfBoundsException();
    }

    private static RuntimeException argument() {
        return new IllegalArgumentException();
    }

    private static RuntimeException state() {
        return new IllegalStateException();
    }

    private static boolean within(int x, int least, int most) {
        return x >= least && x <= most;
    }

    int addPuppet(int weight, int hands) {
        if (!within(weight, 1, 9) || !within(hands, 1, 2)) throw argument();
        if (puppets.size() == 8) throw state();
        puppets.add(new int[] {weight, hands});
        changed();
        return puppets.size() - 1;
    }

    int addPlayer(int strength, int place) {
        if (!within(strength, 1, 20) || !within(place, 0, 19)) throw argument();
        if (players.size() == 5) throw state();
        players.add(new int[] {strength, place});
        changed();
        return players.size() - 1;
    }

    int enter(int puppet, int beat, int place, int track) {
        needPuppet(puppet);
        if (!within(beat, 0, 999) || !within(place, 0, 19) || !within(track, 0, 3)) throw argument();
        return write(0, puppet, beat, place, track);
    }

    int move(int puppet, int beat, int place) {
        needPuppet(puppet);
        if (!within(beat, 0, 999) || !within(place, 0, 19)) throw argument();
        return write(1, puppet, beat, place, -1);
    }

    int shift(int puppet, int beat, int track) {
        needPuppet(puppet);
        if (!within(beat, 0, 999) || !within(track, 0, 3)) throw argument();
        return write(2, puppet, beat, -1, track);
    }

    int leave(int puppet, int beat) {
        needPuppet(puppet);
        if (!within(beat, 0, 999)) throw argument();
        return write(3, puppet, beat, -1, -1);
    }

    int strike(int number) {
        Cue cue = needCue(number);
        cue.struck = true;
        if (play(cue.puppet) == null) {
            cue.struck = false;
            throw state();
        }
        changed();
        int left = 0;
        for (Cue other : cues) if (!other.struck && other.puppet == cue.puppet) left++;
        return left;
    }

    int count(int what) {
        if (what == 0) return puppets.size();
        if (what == 1) return players.size();
        if (what == 2) return cues.size();
        if (what != 3) throw index();
        int struck = 0;
        for (Cue cue : cues) if (cue.struck) struck++;
        return struck;
    }

    int cue(int number, int what) {
        Cue cue = needCue(number);
        if (!within(what, 0, 4)) throw index();
        return new int[] {cue.kind, cue.puppet, cue.beat, cue.place, cue.track}[what];
    }

    int place(int puppet, int beat) {
        needPuppet(puppet);
        if (!within(beat, 0, 999)) throw argument();
        return stage(puppet)[0][beat];
    }

    int track(int puppet, int beat) {
        needPuppet(puppet);
        if (!within(beat, 0, 999)) throw argument();
        return stage(puppet)[1][beat];
    }

    int onStage(int beat) {
        if (!within(beat, 0, 999)) throw argument();
        int sum = 0;
        for (int p = 0; p < puppets.size(); p++) if (stage(p)[0][beat] >= 0) sum += 1 << p;
        return sum;
    }

    int clash(int a, int b) {
        needPuppet(a);
        needPuppet(b);
        if (a == b) throw argument();
        int[] pa = stage(a)[0];
        int[] ta = stage(a)[1];
        int[] pb = stage(b)[0];
        int[] tb = stage(b)[1];
        for (int t = 0; t < 1000; t++) {
            boolean both = pa[t] >= 0 && pb[t] >= 0;
            if (both && pa[t] == pb[t] && ta[t] == tb[t]) return t;
            if (t == 999) continue;
            boolean bothNext = pa[t + 1] >= 0 && pb[t + 1] >= 0;
            if (both && bothNext && ta[t] == tb[t] && ta[t + 1] == tb[t + 1]
                    && pa[t] == pb[t + 1] && pb[t] == pa[t + 1]) return t;
        }
        return -1;
    }

    int clashes() {
        int sum = 0;
        for (int a = 0; a < puppets.size(); a++) {
            for (int b = 0; b < a; b++) if (clash(a, b) >= 0) sum++;
        }
        return sum;
    }

    int beats(int puppet) {
        needPuppet(puppet);
        int sum = 0;
        for (int place : stage(puppet)[0]) if (place >= 0) sum++;
        return sum;
    }

    int stays(int puppet) {
        needPuppet(puppet);
        return staysOf(puppet).size();
    }

    int stay(int puppet, int stay, int what) {
        needPuppet(puppet);
        List<Stay> list = staysOf(puppet);
        if (!within(stay, 0, list.size() - 1) || !within(what, 0, 2)) throw index();
        Stay s = list.get(stay);
        return new int[] {s.first, s.behind, s.player}[what];
    }

    int uncast() {
        int sum = 0;
        for (Stay stay : casting()) if (stay.player < 0) sum++;
        return sum;
    }

    int hands(int player, int beat) {
        needPlayer(player);
        if (!within(beat, 0, 999)) throw argument();
        int sum = 0;
        for (Stay stay : casting()) {
            if (stay.player == player && stay.first <= beat && beat < stay.behind) {
                sum += 1 << stay.puppet;
            }
        }
        return sum;
    }

    int load(int player) {
        needPlayer(player);
        int sum = 0;
        for (int t = 0; t < 1000; t++) if (hands(player, t) != 0) sum++;
        return sum;
    }

    int note(int number, int late) {
        Cue cue = needCue(number);
        if (!within(late, -50, 50)) throw argument();
        if (cue.notes.size() == 20) throw state();
        cue.notes.add(late);
        return cue.notes.size();
    }

    double mean(int number) {
        Cue cue = needCue(number);
        int sum = 0;
        for (int late : cue.notes) sum += late;
        return cue.notes.isEmpty() ? 0.0 : (double) sum / (double) cue.notes.size();
    }

    int worst() {
        int worst = -1;
        int most = 0;
        for (int i = cues.size() - 1; i >= 0; i--) {
            Cue cue = cues.get(i);
            if (cue.struck || cue.notes.isEmpty()) continue;
            int sum = 0;
            for (int late : cue.notes) sum += late < 0 ? -late : late;
            if (sum >= most) {
                worst = i;
                most = sum;
            }
        }
        return worst;
    }

    long digest() {
        List<Integer> xs = new ArrayList<>();
        xs.add(puppets.size());
        for (int p = 0; p < puppets.size(); p++) {
            xs.add(stays(p));
            for (int s = 0; s < stays(p); s++) for (int w = 0; w < 3; w++) xs.add(stay(p, s, w));
        }
        xs.add(players.size());
        for (int p = 0; p < players.size(); p++) xs.add(load(p));
        xs.add(cues.size());
        for (int c = 0; c < cues.size(); c++) {
            if (cues.get(c).struck) continue;
            for (int w = 0; w < 5; w++) xs.add(cue(c, w));
            xs.add(cues.get(c).notes.size());
        }
        xs.add(clashes());
        long d = 277;
        for (int x : xs) d = d * 31 + x;
        return d;
    }

    private void needPuppet(int puppet) {
        if (!within(puppet, 0, puppets.size() - 1)) throw index();
    }

    private void needPlayer(int player) {
        if (!within(player, 0, players.size() - 1)) throw index();
    }

    private Cue needCue(int cue) {
        if (!within(cue, 0, cues.size() - 1) || cues.get(cue).struck) throw index();
        return cues.get(cue);
    }

    private int write(int kind, int puppet, int beat, int place, int track) {
        if (cues.size() == 40) throw state();
        Cue cue = new Cue();
        cue.kind = kind;
        cue.puppet = puppet;
        cue.beat = beat;
        cue.place = place;
        cue.track = track;
        cues.add(cue);
        if (play(puppet) == null) {
            cues.remove(cues.size() - 1);
            throw state();
        }
        changed();
        return cues.size() - 1;
    }

    private void changed() {
        stays = null;
        for (int p = 0; p < stages.length; p++) stages[p] = null;
    }

    private int[][] stage(int puppet) {
        if (stages[puppet] == null) stages[puppet] = play(puppet);
        return stages[puppet];
    }

    /** The places and the tracks of a puppet, beat by beat; null if a cue of it is not right. */
    private int[][] play(int puppet) {
        int[][] stage = new int[2][1000];
        boolean on = false;
        int at = -1;
        int goal = -1;
        int track = -1;
        int entered = -1;
        for (int t = 0; t < 1000; t++) {
            at += Integer.signum(goal - at);
            for (Cue cue : cues) {
                if (cue.struck || cue.puppet != puppet || cue.beat != t) continue;
                if ((cue.kind == 0) == on) return null;
                if (cue.kind != 0 && at != goal) return null;
                if (cue.kind == 3 && entered == t) return null;
                if (cue.kind == 0) {
                    at = cue.place;
                    entered = t;
                }
                if (cue.kind <= 1) goal = cue.place;
                if (cue.kind == 0 || cue.kind == 2) track = cue.track;
                on = cue.kind != 3;
            }
            stage[0][t] = on ? at : -1;
            stage[1][t] = on ? track : -1;
        }
        return at == goal ? stage : null;
    }

    private List<Stay> staysOf(int puppet) {
        List<Stay> list = new ArrayList<>();
        for (Stay stay : casting()) if (stay.puppet == puppet) list.add(stay);
        return list;
    }

    private List<Stay> casting() {
        if (stays == null) {
            stays = new ArrayList<>();
            for (int t = 0; t < 1000; t++) {
                for (int p = 0; p < puppets.size(); p++) {
                    for (Cue cue : cues) {
                        if (!cue.struck && cue.puppet == p && cue.beat == t && cue.kind == 0) {
                            stays.add(named(p, t));
                        }
                    }
                }
            }
        }
        return stays;
    }

    private Stay named(int puppet, int first) {
        Stay stay = new Stay();
        stay.puppet = puppet;
        stay.first = first;
        stay.behind = 1000;
        for (Cue cue : cues) {
            if (!cue.struck && cue.puppet == puppet && cue.kind == 3 && cue.beat > first) {
                stay.behind = Math.min(stay.behind, cue.beat);
            }
        }
        stay.player = -1;
        for (int p = players.size() - 1; p >= 0; p--) {
            List<Stay> its = new ArrayList<>();
            for (Stay other : stays) if (other.player == p) its.add(other);
            its.add(stay);
            if (canDo(p, its)) stay.player = p;
        }
        return stay;
    }

    private boolean canDo(int player, List<Stay> its) {
        int lastBeat = 0;
        int lastPlace = players.get(player)[1];
        for (int t = 0; t < 1000; t++) {
            int hands = 0;
            int weight = 0;
            List<Integer> places = new ArrayList<>();
            for (Stay stay : its) {
                if (t < stay.first || t >= stay.behind) continue;
                weight += puppets.get(stay.puppet)[0];
                hands += puppets.get(stay.puppet)[1];
                places.add(stage(stay.puppet)[0][t]);
            }
            if (hands > 2 || weight > players.get(player)[0]) return false;
            for (int place : places) if (place != places.get(0)) return false;
            if (places.isEmpty()) continue;
            if (Math.abs(places.get(0) - lastPlace) > t - lastBeat) return false;
            lastBeat = t;
            lastPlace = places.get(0);
        }
        return true;
    }
}
