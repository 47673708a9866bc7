import java.util.Random;

/** Promises 15 and 16: seed, draw. */
public final class DrawTest {
    public static void main(String[] args) {
        refusals();
        coldest();
        equalOnes();
        fewest();
        temperatures();
        seeds();
        firstDraws();
        exactlyAtASum();
        likeOracle();
        Check.end();
    }

    private static void refusals() {
        TextEngine x = Spec.stepped(0, 1);
        int[][] bad = {{-1, 1, 1}, {401, 1, 1}, {0, 0, 1}, {0, 17, 1}, {0, 1, 0}, {0, 1, 101}, {100, -1, 50},
            {100, 1, -1}, {Integer.MAX_VALUE, 1, 1}, {Integer.MIN_VALUE, 1, 1}, {1, Integer.MAX_VALUE, 1},
            {1, 1, Integer.MIN_VALUE}};
        for (int[] b : bad) {
            Check.due("draw with " + b[0] + ", " + b[1] + ", " + b[2], x.draw(b[0], b[1], b[2]), -1);
        }
        Check.due("draw(400, 1, 100)", x.draw(400, 1, 100), 1);
        Check.due("draw(1, 16, 1)", x.draw(1, 16, 1), 1);
        Check.due("draw(0, 16, 100)", x.draw(0, 16, 100), 1);
        x.reset();
        Check.due("draw without a STEP", x.draw(0, 1, 1), -3);
        Check.due("draw without a STEP, k 0", x.draw(0, 0, 1), -1);
        Check.due("draw without a STEP, temperature 401", x.draw(401, 1, 1), -1);
        Check.due("draw without a STEP, percent 101", x.draw(0, 1, 101), -1);
    }

    private static void coldest() {
        Check.due("the greatest", Spec.stepped(0, -1, 3, 2).draw(0, 4, 100), 2);
        Check.due("of equal ones the least", Spec.stepped(0, 3, 3, 2).draw(0, 4, 100), 1);
        Check.due("all equal", Spec.stepped(0, 0, 0).draw(0, 1, 1), 0);
        Check.due("all below 0", Spec.stepped(-3, -2, -2.5).draw(0, 1, 1), 1);
        Check.due("the last", Spec.stepped(-3, -2, -1).draw(0, 1, 1), 2);
    }

    /** With n equal LOGITS each e is 1: TOKEN i is drawn for d from i up to below i + 1. */
    private static void equalOnes() {
        for (int n : new int[] {2, 5, 16}) {
            TextEngine x = Spec.stepped(new double[n]);
            long seed = 1;
            for (int i = 0; i < 60; i++) {
                seed = Spec.nextSeed(seed);
                float d = (seed >>> 40) / 16777216f * n;
                Check.due("draw " + i + " of " + n, x.draw(100, 16, 100), (int) d);
            }
            for (int k = 1; k <= 16; k++) {
                seed = Spec.nextSeed(seed);
                float d = (seed >>> 40) / 16777216f * Math.min(n, k);
                Check.due("draw of the first " + k + " of " + n, x.draw(30, k, 100), (int) d);
            }
        }
    }

    /** Of 4 equal ones 25 percent are 1, 26 are 2, 50 are 2, 51 are 3, 76 are 4. */
    private static void fewest() {
        int[][] stay = {{1, 1}, {25, 1}, {26, 2}, {50, 2}, {51, 3}, {75, 3}, {76, 4}, {100, 4}};
        TextEngine x = Spec.stepped(0, 0, 0, 0, -4);
        long seed = 1;
        for (int[] one : stay) {
            for (int i = 0; i < 12; i++) {
                seed = Spec.nextSeed(seed);
                float d = (seed >>> 40) / 16777216f * one[1];
                Check.due("draw of " + one[0] + " percent", x.draw(50, 4, one[0]), (int) d);
            }
        }
    }

    /** Two LOGITS, 2 apart: the second has EXP of -2 / T. */
    private static void temperatures() {
        TextEngine x = Spec.stepped(0, 1);
        long seed = 77;
        x.seed(77);
        int second = 0;
        for (int t : new int[] {1, 50, 100, 200, 400}) {
            for (int i = 0; i < 30; i++) {
                seed = Spec.nextSeed(seed);
                double least = Math.max(-16, -2 / (t / 100.0));
                double e = Math.pow(1 + least / 256, 256);
                double d = (seed >>> 40) / 16777216.0 * (1 + e);
                second += d >= 1 ? 1 : 0;
                Check.due("draw at " + t, x.draw(t, 2, 100), d < 1 ? 1 : 0);
            }
        }
        Check.holds("both were drawn", second > 10);
    }

    private static int[] draws(TextEngine x, int n) {
        int[] all = new int[n];
        for (int i = 0; i < n; i++) {
            all[i] = x.draw(400, 16, 100);
        }
        return all;
    }

    private static void dueDraws(String what, TextEngine x, int[] due) {
        for (int i = 0; i < due.length; i++) {
            Check.due(what + ", draw " + i, x.draw(400, 16, 100), due[i]);
        }
    }

    /** The SEED is 1 at first, stays with temperature 0 and refusals, and behind reset() and load(). */
    private static void seeds() {
        int[] first = draws(Spec.stepped(new double[16]), 20);
        TextEngine x = Spec.stepped(new double[16]);
        x.seed(0);
        dueDraws("seed(0) is 1", x, first);
        x.seed(1);
        dueDraws("seed(1)", x, first);
        x.seed(1);
        x.draw(0, 16, 100);
        x.draw(401, 16, 100);
        x.draw(100, 0, 100);
        x.say(1);
        x.reset();
        x.draw(100, 1, 100);
        x.step(0);
        dueDraws("what leaves the SEED", x, first);
        x.seed(1);
        x.draw(400, 1, 100);
        long seed = Spec.nextSeed(1);
        for (int i = 0; i < 10; i++) {
            seed = Spec.nextSeed(seed);
            Check.due("k 1 moves the SEED", x.draw(400, 16, 100), seed >>> 60);
        }
        x.load();
        x.step(0);
        seed = Spec.nextSeed(seed);
        Check.due("load() leaves the SEED", x.draw(400, 16, 100), seed >>> 60);
        x.seed(Long.MIN_VALUE);
        seed = Spec.nextSeed(Long.MIN_VALUE);
        Check.due("seed(MIN)", x.draw(400, 16, 100), seed >>> 60);
        seed = Spec.nextSeed(seed);
        Check.due("seed(MIN), second", x.draw(400, 16, 100), seed >>> 60);
        TextEngine early = new TextEngine();
        early.seed(12345678901L);
        Spec.feed(early, Spec.withHalfLogits(new double[16]).build());
        early.load();
        early.step(0);
        seed = Spec.nextSeed(12345678901L);
        seed = Spec.nextSeed(seed);
        early.draw(1, 1, 1);
        Check.due("a SEED from before load()", early.draw(400, 16, 100), seed >>> 60);
    }

    /** What SEED 1 draws from 16 equal ones: the top 4 bits of 1082269761, 1152992998833853505 .. */
    private static void firstDraws() {
        Check.due("SEED 1, once", Spec.nextSeed(1), 1082269761L);
        Check.due("SEED 1, twice", Spec.nextSeed(1082269761L), 1152992998833853505L);
        TextEngine x = Spec.stepped(new double[16]);
        Check.due("first draw", x.draw(100, 16, 100), 0);
        Check.due("second draw", x.draw(100, 16, 100), 1152992998833853505L >>> 60);
    }

    /** Where d is just the SUM up to the first one, that is not above it. */
    private static void exactlyAtASum() {
        TextEngine x = Spec.stepped(0, 0, 0, 0);
        for (int quarter = 0; quarter < 4; quarter++) {
            long top = quarter * 0x400000L << 40;
            if (quarter > 0) {
                x.seed(Spec.seedBefore(top));
                Check.due("d is " + quarter, x.draw(100, 4, 100), quarter);
            }
            x.seed(Spec.seedBefore(top | 0xFFFFFFFFFFL));
            Check.due("d is " + quarter + ", with low bits that do not count", x.draw(100, 4, 100), quarter);
            x.seed(Spec.seedBefore(top | 0x3FFFFFL << 40));
            Check.due("d is just below " + (quarter + 1), x.draw(100, 4, 100), quarter);
        }
    }

    private static void likeOracle() {
        for (int run = 0; run < 20; run++) {
            Random random = new Random(run);
            int n = 2 + random.nextInt(15);
            double[] halves = new double[n];
            for (int i = 0; i < n; i++) {
                halves[i] = (random.nextInt(65) - 32) / (run % 2 == 0 ? 8.0 : 32.0);
            }
            TextEngine x = Spec.stepped(halves);
            Oracle o = new Oracle();
            for (byte octet : Spec.withHalfLogits(halves).build()) {
                o.file(octet, 1);
            }
            o.load();
            o.step(0);
            x.seed(run);
            o.seed(run);
            for (int i = 0; i < 150; i++) {
                int t = random.nextInt(401);
                int k = 1 + random.nextInt(16);
                int p = 1 + random.nextInt(100);
                Check.due("draw(" + t + ", " + k + ", " + p + ")", x.draw(t, k, p), o.draw(t, k, p));
            }
        }
    }
}
