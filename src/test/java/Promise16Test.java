/** Promise 16, draw, with what the Terms say of DRAWING: each sentence with its edges. */
public final class Promise16Test {
    public static void main(String[] args) {
        greatestFirst();
        temperatureZero();
        bounds();
        refused();
        none();
        refusedBeforeNone();
        moreThanThereAre();
        onlyTheFirstK();
        theFewest();
        exactlyEnough();
        sumsAndD();
        farAwayOnes();
        temperatures();
        onlyTheSeed();
        atTheLastPosition();
        Check.end();
    }

    private static TextEngine seeded(TextEngine x, long top24) {
        x.seed(Spec.seedBefore(top24 << 40 | 1));
        return x;
    }

    /** "the greatest one first, of equal ones the least TOKEN". */
    private static void greatestFirst() {
        double[][] rows = {{0, 0}, {0, 1}, {1, 0}, {-1, -2, -1}, {-2, -1, -1}, {3, 3, 4, 4}, {0, -0.0}};
        int[] due = {0, 1, 0, 0, 1, 2, 0};
        for (int i = 0; i < rows.length; i++) {
            TextEngine x = Spec.stepped(rows[i]);
            Check.due("draw(0, 1, 1) of row " + i, x.draw(0, 1, 1), due[i]);
            Check.due("draw(100, 1, 100) of row " + i, x.draw(100, 1, 100), due[i]);
        }
        double[] last = new double[16];
        last[15] = 0.0009765625;
        Check.due("the last of 16", Spec.stepped(last).draw(0, 16, 100), 15);
        // The order of all: with d in each quarter of 4 LOGITS that are hardly apart.
        TextEngine x = Spec.stepped(0.0009765625, 0.001953125, 0.0009765625, 0.001953125);
        int[] order = {1, 3, 0, 2};
        for (int i = 0; i < 4; i++) {
            Check.due("number " + i, seeded(x, 0x200000L + 0x400000L * i).draw(400, 4, 100), order[i]);
        }
    }

    /** "with temperature 0 the first one (the SEED stays)". */
    private static void temperatureZero() {
        for (Stage stage : new Stage[] {Stage.RUNNING, Stage.LAST, Stage.CROWDED}) {
            int due = stage.make().draw(0, 1, 1);
            for (int[] kp : new int[][] {{1, 1}, {1, 100}, {16, 1}, {16, 100}, {4, 50}}) {
                Seen.changesNothing("draw(0, k, percent)", stage, due, x -> x.draw(0, kp[0], kp[1]));
            }
        }
    }

    /** "temperature .. 0..400, k .. 1..16 .. percent .. 1..100": the least and the most of each. */
    private static void bounds() {
        TextEngine x = Spec.stepped(0, 1);
        for (int t : new int[] {0, 1, 400}) {
            for (int k : new int[] {1, 2, 3, 16}) {
                for (int p : new int[] {1, 100}) {
                    int drawn = x.draw(t, k, p);
                    Check.holds("draw(" + t + ", " + k + ", " + p + ")",
                        drawn == 1 || drawn == 0 && t == 400 && k > 1 && p == 100);
                }
            }
        }
    }

    /** "REFUSED if temperature is not 0..400, k not 1..16 .., or percent not 1..100". */
    private static void refused() {
        for (int wrong : new int[] {-1, 401, Integer.MIN_VALUE, Integer.MAX_VALUE}) {
            Seen.refusedEverywhere("draw(" + wrong + ", 1, 1)", -1, x -> x.draw(wrong, 1, 1));
            Seen.refusedEverywhere("draw(100, " + wrong + ", 50)", -1, x -> x.draw(100, wrong, 50));
            Seen.refusedEverywhere("draw(100, 4, " + wrong + ")", -1, x -> x.draw(100, 4, wrong));
        }
        for (int temperature : new int[] {0, 100}) {
            Seen.refusedEverywhere("draw(t, 0, 100)", -1, x -> x.draw(temperature, 0, 100));
            Seen.refusedEverywhere("draw(t, 17, 100)", -1, x -> x.draw(temperature, 17, 100));
            Seen.refusedEverywhere("draw(t, 16, 0)", -1, x -> x.draw(temperature, 16, 0));
            Seen.refusedEverywhere("draw(t, 16, 101)", -1, x -> x.draw(temperature, 16, 101));
        }
    }

    /** "NONE if there was no STEP since RESET." */
    private static void none() {
        for (Stage stage : new Stage[] {Stage.NEW, Stage.FAULTY, Stage.LOADED}) {
            Seen.changesNothing("draw(0, 1, 1)", stage, -3, x -> x.draw(0, 1, 1));
            Seen.changesNothing("draw(400, 16, 100)", stage, -3, x -> x.draw(400, 16, 100));
        }
        TextEngine x = Stage.RUNNING.make();
        x.reset();
        Check.due("draw behind reset()", x.draw(100, 4, 100), -3);
        x.step(0);
        Check.holds("draw behind a STEP", x.draw(100, 4, 100) >= 0);
        x.load();
        Check.due("draw behind load()", x.draw(100, 4, 100), -3);
        // What was NONE left the SEED alone.
        x = Spec.loaded(Spec.withHalfLogits(new double[16]));
        x.draw(100, 16, 100);
        x.step(0);
        long seed = 1;
        for (int i = 0; i < 5; i++) {
            seed = Spec.nextSeed(seed);
            Check.due("draw " + i + " behind NONE", x.draw(100, 16, 100), seed >>> 60);
        }
    }

    private static void refusedBeforeNone() {
        for (Stage stage : new Stage[] {Stage.NEW, Stage.FAULTY, Stage.LOADED}) {
            TextEngine x = stage.make();
            Check.due("draw(401, 1, 1)", x.draw(401, 1, 1), -1);
            Check.due("draw(0, 17, 1)", x.draw(0, 17, 1), -1);
            Check.due("draw(0, 1, 101)", x.draw(0, 1, 101), -1);
        }
    }

    /** "k .. (more than there are: all)". */
    private static void moreThanThereAre() {
        TextEngine x = Spec.stepped(0, 0, 0);
        for (int k : new int[] {3, 4, 15, 16}) {
            Check.due("the first third with k " + k, seeded(x, 0).draw(100, k, 100), 0);
            Check.due("the second with k " + k, seeded(x, 0x800000).draw(100, k, 100), 1);
            Check.due("the last with k " + k, seeded(x, 0xFFFFFF).draw(100, k, 100), 2);
        }
    }

    /** "Of the first k (in that order)": of 16 equal ones the last of k is drawn for the greatest d. */
    private static void onlyTheFirstK() {
        TextEngine x = Spec.stepped(new double[16]);
        for (int k = 1; k <= 16; k++) {
            Check.due("the last of " + k, seeded(x, 0xFFFFFF).draw(100, k, 100), k - 1);
            Check.due("the first of " + k, seeded(x, 0).draw(100, k, 100), 0);
        }
        TextEngine y = Spec.stepped(0, 0, 0.5, 0);
        Check.due("k 1 is the greatest", seeded(y, 0xFFFFFF).draw(400, 1, 100), 2);
        Check.due("k 2 adds the least TOKEN", seeded(y, 0xFFFFFF).draw(400, 2, 100), 0);
        Check.due("k 3 adds the next", seeded(y, 0xFFFFFF).draw(400, 3, 100), 1);
    }

    /** "those stay that are needed for the SUM .. to be at least percent / 100 * (SUM of all k): the fewest." */
    private static void theFewest() {
        for (int k = 1; k <= 16; k++) {
            TextEngine x = Spec.stepped(new double[16]);
            for (int percent : new int[] {1, 6, 7, 24, 25, 26, 49, 50, 51, 74, 75, 76, 99, 100}) {
                float enough = percent / 100f * k;
                int stay = 1;
                while (stay < enough) {
                    stay++;
                }
                Check.due(percent + " percent of " + k, seeded(x, 0xFFFFFF).draw(100, k, percent), stay - 1);
            }
        }
    }

    /** "at least": where the SUM is just as much, no more stay. */
    private static void exactlyEnough() {
        TextEngine x = Spec.stepped(0, 0, 0, 0);
        Check.due("25 percent of 4", seeded(x, 0xFFFFFF).draw(100, 4, 25), 0);
        Check.due("50 percent of 4", seeded(x, 0xFFFFFF).draw(100, 4, 50), 1);
        Check.due("75 percent of 4", seeded(x, 0xFFFFFF).draw(100, 4, 75), 2);
        Check.due("100 percent of 4", seeded(x, 0xFFFFFF).draw(100, 4, 100), 3);
        Check.due("50 percent of 2", seeded(x, 0xFFFFFF).draw(100, 2, 50), 0);
        Check.due("51 percent of 2", seeded(x, 0xFFFFFF).draw(100, 2, 51), 1);
    }

    /** "the first one for which the SUM up to it is above d": just as much as d is not above it. */
    private static void sumsAndD() {
        TextEngine x = Spec.stepped(new double[16]);
        for (int i = 0; i < 16; i++) {
            Check.due("d is " + i, seeded(x, 0x100000L * i).draw(100, 16, 100), i);
            Check.due("d is just below " + (i + 1), seeded(x, 0x100000L * (i + 1) - 1).draw(100, 16, 100), i);
        }
    }

    /**
     * EXP is held at -16: the second one, 200 units of T away, still has 6.66e-8, which makes the SUM
     * the float above 1. With the two greatest d, which become 1, it is drawn; with the next it is not.
     */
    private static void farAwayOnes() {
        TextEngine x = Spec.stepped(0, 1);
        Check.due("the greatest d", seeded(x, 0xFFFFFF).draw(1, 2, 100), 0);
        Check.due("the second greatest", seeded(x, 0xFFFFFE).draw(1, 2, 100), 0);
        Check.due("the third", seeded(x, 0xFFFFFD).draw(1, 2, 100), 1);
        Check.due("the greatest d with k 1", seeded(x, 0xFFFFFF).draw(1, 1, 100), 1);
        Check.due("the greatest d with 99 percent", seeded(x, 0xFFFFFF).draw(1, 2, 99), 1);
        Check.due("16 units away", seeded(x, 0xFFFFFD).draw(12, 2, 100), 1);
    }

    /** "e_i is EXP of (LOGIT i - m) / T", "T is temperature / 100": of two LOGITS 2 apart. */
    private static void temperatures() {
        TextEngine x = Spec.stepped(0, 1);
        for (int t : new int[] {13, 17, 50, 100, 399, 400}) {
            double e = Math.pow(1 - 200.0 / t / 256, 256);
            long edge = (long) Math.floor(16777216 / (1 + e));
            // EXP takes its rounding 256 times.
            int margin = (int) (4 + 200 * e);
            long above = Math.min(edge + margin, 0xFFFFFF);
            Check.due("at " + t + " just below the edge", seeded(x, edge - margin).draw(t, 2, 100), 1);
            Check.due("at " + t + " just above it", seeded(x, above).draw(t, 2, 100), 0);
        }
    }

    /** A draw moves the SEED once, whatever k and percent are, and nothing else. */
    private static void onlyTheSeed() {
        for (Stage stage : new Stage[] {Stage.RUNNING, Stage.LAST, Stage.CROWDED}) {
            int due = stage.make().draw(0, 1, 1);
            Seen.changesOnly("draw(1, 1, 1)", stage, due, x -> x.draw(1, 1, 1), Seen.Part.SEED);
        }
        TextEngine x = Spec.stepped(new double[16]);
        int[][] calls = {{1, 1, 1}, {400, 16, 100}, {400, 1, 100}, {1, 16, 1}};
        long seed = 1;
        for (int[] c : calls) {
            x.draw(c[0], c[1], c[2]);
            seed = Spec.nextSeed(Spec.nextSeed(seed));
            Check.due("draw behind another", x.draw(100, 16, 100), seed >>> 60);
        }
    }

    private static void atTheLastPosition() {
        TextEngine x = Spec.stepped(new double[16]);
        for (int p = 1; p < 60; p++) {
            x.step(0);
        }
        Check.due("step(0)", x.step(0), -2);
        Check.due("draw(100, 16, 100)", x.draw(100, 16, 100), Spec.nextSeed(1) >>> 60);
    }
}
