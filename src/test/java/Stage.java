import java.util.Random;

/** A past that an object may have when a call comes. */
enum Stage {
    /** Nothing has happened. */
    NEW(false, 0),
    /** A FILE that is not sound, and a TEXT. */
    FAULTY(false, 0),
    /** A MODEL, and nothing else yet. */
    LOADED(true, 0),
    /** TOKENS of encode(), a new TEXT, more STEPS than ctx, TOKENS SAID, a SEED that has moved. */
    RUNNING(true, 8),
    /** The last POSITION has been used. */
    LAST(true, 60),
    /** FILE, TEXT and what was SAID have no room left. */
    CROWDED(true, 35);

    static final int FILE_ROOM = 1400;
    private static final byte[] OCTETS = spec().build();

    final boolean hasModel;
    final int steps;

    Stage(boolean hasModel, int steps) {
        this.hasModel = hasModel;
        this.steps = steps;
    }

    /** Four TOKENS, a, b, ab and c; the LOGITS depend on what is REMEMBERED; stop is never likeliest. */
    static Spec spec() {
        Spec s = Spec.sound(new int[] {8, 2, 1, 1, 8, 4}, new int[] {Spec.FOURS},
            new String[] {"a", "b", "ab", "c"}, new long[] {0, 1});
        s.fill(new Random(4), 1.2).set("stop", 3);
        s.tensor("out").setHalf(18, 0);
        return s;
    }

    boolean hasLogits() {
        return steps > 0;
    }

    TextEngine make() {
        TextEngine x = new TextEngine();
        if (this == NEW) {
            return x;
        }
        Spec.feed(x, OCTETS);
        if (this == FAULTY) {
            x.flip(8, 64);
            x.load();
            x.text(0x6261, 2);
            return x;
        }
        if (this == CROWDED) {
            fillFile(x);
        }
        x.load();
        if (this != LOADED) {
            go(x);
        }
        return x;
    }

    static int sizeOfFile() {
        return OCTETS.length;
    }

    static void fillFile(TextEngine x) {
        int left = FILE_ROOM - OCTETS.length;
        while (left > 0) {
            int n = Math.min(8, left);
            x.file(0x0102030405060708L, n);
            left -= n;
        }
    }

    private void go(TextEngine x) {
        x.text(0x61636261L, 4);
        x.encode();
        x.text(0x6361, 2);
        x.seed(99);
        x.step(0);
        x.step(2);
        x.draw(200, 4, 100);
        if (this == CROWDED) {
            x.text(0x6162616361626162L, 8);
            x.text(0x6262636162616261L, 8);
            x.text(0x626163626163L, 6);
        }
        int left = steps - 2;
        while (left > 0) {
            left -= x.say(Math.min(left, 16));
        }
    }
}
