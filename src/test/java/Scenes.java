/** Books with which several tests begin. */
final class Scenes {
    static final Checks.Scene EMPTY = b -> { };

    static final Checks.Scene ONE_PUPPET = b -> b.addPuppet(1, 1);

    static final Checks.Scene EIGHT_PUPPETS = b -> {
        for (int i = 0; i < 8; i++) {
            b.addPuppet(9, 2);
        }
    };

    static final Checks.Scene FIVE_PLAYERS = b -> {
        for (int i = 0; i < 5; i++) {
            b.addPlayer(20, 19);
        }
    };

    /**
     * Puppet 0 comes in at beat 10, at place 5, walks to place 9 from 12 to 16, and leaves at 30;
     * puppet 1 never comes in; a player stands where puppet 0 comes in.
     */
    static final Checks.Scene WALK = b -> {
        b.addPuppet(3, 1);
        b.addPuppet(3, 1);
        b.addPlayer(9, 5);
        b.enter(0, 10, 5, 1);
        b.move(0, 12, 9);
        b.leave(0, 30);
    };

    /** Puppet 0 is on stage from beat 0 on and shifts 39 times; puppet 1 has no cue. */
    static final Checks.Scene FORTY_CUES = b -> {
        b.addPuppet(1, 1);
        b.addPuppet(1, 1);
        b.enter(0, 0, 0, 0);
        for (int i = 1; i < 40; i++) {
            b.shift(0, i, i % 4);
        }
    };

    /**
     * 8 puppets, 5 players, 40 cues, 2 of them noted 20 times: puppet p stays from beat 100p to
     * 100p + 60 and from 100p + 70 on, at place 9 in the end; each player can hold one of them.
     */
    static final Checks.Scene FULL = b -> {
        for (int p = 0; p < 8; p++) {
            b.addPuppet(p + 1, 2);
        }
        for (int i = 0; i < 5; i++) {
            b.addPlayer(20 - 4 * i, 4 * i);
        }
        for (int p = 0; p < 8; p++) {
            b.enter(p, 100 * p, 2 * p, p % 4);
            b.move(p, 100 * p + 10, 9);
            b.leave(p, 100 * p + 60);
            b.enter(p, 100 * p + 70, 9, 0);
            b.shift(p, 100 * p + 80, p % 4);
        }
        for (int i = 0; i < 20; i++) {
            b.note(0, 50);
            b.note(39, -50);
        }
    };

    /** Two puppets that come in at beat 10 at places a and b, both on track 1; a third one does not. */
    static Checks.Scene pair(int a, int b) {
        return book -> {
            book.addPuppet(1, 1);
            book.addPuppet(1, 1);
            book.addPuppet(1, 1);
            book.enter(0, 10, a, 1);
            book.enter(1, 10, b, 1);
        };
    }

    private Scenes() {
    }
}
