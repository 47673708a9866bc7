import java.util.Random;

/** Promise 13, step, with what the Terms say of a STEP: each sentence with its edges. */
public final class Promise13Test {
    public static void main(String[] args) {
        positions();
        full();
        fullChangesNothing();
        none();
        refused();
        refusedBeforeFull();
        onlyAStep();
        atMostCtx();
        firstPositionIsAlone();
        expAtLeast();
        expAtMost();
        extremeSizes();
        Check.end();
    }

    /** "A STEP with a TOKEN: its POSITION", "(0 the first behind a RESET)". */
    private static void positions() {
        TextEngine x = Stage.LOADED.make();
        for (int p = 0; p < 60; p++) {
            Check.due("step(" + p % 4 + ")", x.step(p % 4), p);
        }
        Check.due("reset()", x.reset(), 60);
        Check.due("step(3) behind reset()", x.step(3), 0);
        Check.due("step(0) behind that", x.step(0), 1);
        Check.due("load()", x.load(), 0);
        Check.due("step(0) behind load()", x.step(0), 0);
        x.flip(0, 1);
        Check.due("load() with a FAULT", x.load(), 2);
        Check.due("step(0) behind a FAULT", x.step(0), 1);
    }

    /** "FULL at POSITION 60." */
    private static void full() {
        TextEngine x = Stage.LOADED.make();
        for (int p = 0; p < 59; p++) {
            x.step(1);
        }
        Check.due("step(2) at 59", x.step(2), 59);
        int logit = x.logit(0);
        for (int t = 0; t < 4; t++) {
            Check.due("step(" + t + ") at 60", x.step(t), -2);
        }
        Check.due("logit(0) behind FULL", x.logit(0), logit);
        Check.due("reset() behind FULL", x.reset(), 60);
        Check.due("step(0) behind that", x.step(0), 0);
    }

    private static void fullChangesNothing() {
        for (int t = 0; t < 4; t++) {
            int token = t;
            Seen.changesNothing("step(" + t + ")", Stage.LAST, -2, x -> x.step(token));
        }
    }

    /** "NONE without a MODEL". */
    private static void none() {
        for (int t : new int[] {0, 1, 15, -1, 16, Integer.MIN_VALUE, Integer.MAX_VALUE}) {
            Seen.changesNothing("step(" + t + ")", Stage.NEW, -3, x -> x.step(t));
            Seen.changesNothing("step(" + t + ")", Stage.FAULTY, -3, x -> x.step(t));
        }
    }

    /** "REFUSED if it is no TOKEN". */
    private static void refused() {
        for (int t : new int[] {-1, 4, 5, 16, Integer.MIN_VALUE, Integer.MAX_VALUE}) {
            Seen.refusedOrNone("step(" + t + ")", x -> x.step(t));
        }
        TextEngine two = Spec.loaded(Spec.still(2));
        Check.due("step(1) of 2", two.step(1), 0);
        Check.due("step(2) of 2", two.step(2), -1);
        TextEngine most = Spec.loaded(Spec.still(16));
        Check.due("step(15) of 16", most.step(15), 0);
        Check.due("step(16) of 16", most.step(16), -1);
    }

    private static void refusedBeforeFull() {
        TextEngine x = Stage.LAST.make();
        Check.due("step(4) at 60", x.step(4), -1);
        Check.due("step(-1) at 60", x.step(-1), -1);
        Check.due("step(3) at 60", x.step(3), -2);
    }

    private static void onlyAStep() {
        for (Stage stage : new Stage[] {Stage.LOADED, Stage.RUNNING, Stage.CROWDED}) {
            Seen.changesOnly("step(1)", stage, stage.steps, x -> x.step(1), Seen.Part.LOGITS, Seen.Part.SEED,
                Seen.Part.STEPS);
        }
    }

    /** All POSITIONS that are REMEMBERED have the same part; TOKEN t is 2 in column t. */
    private static Spec mean(int ctx) {
        int[] packings = new int[12];
        packings[4] = Spec.FOURS;
        packings[5] = Spec.FOURS;
        Spec s = Spec.sound(new int[] {8, 1, 1, 1, 8, ctx}, packings, Spec.letters(4), new long[0]);
        for (int t = 0; t < 4; t++) {
            s.tensor("embed").setHalf(18 * t, Spec.half(2));
            s.tensor("out").setHalf(18 * t, Spec.half(16));
        }
        for (int i = 0; i < 8; i++) {
            s.tensor("v0").setHalf(18 * i, Spec.half(1));
            s.tensor("o0").setHalf(18 * i, Spec.half(1));
            s.tensor("norm").setHalf(2 * i, Spec.half(1));
            s.tensor("a0").setHalf(2 * i, Spec.half(1));
        }
        return s;
    }

    /** "of at most ctx in all (the latest)": TOKEN 0 at POSITION 0 is forgotten at POSITION ctx. */
    private static void atMostCtx() {
        for (int ctx = 2; ctx <= 8; ctx++) {
            TextEngine x = Spec.loaded(mean(ctx));
            x.step(0);
            for (int p = 1; p < 20; p++) {
                Check.due("step(1)", x.step(1), p);
                Check.holds("TOKEN 0 is REMEMBERED at " + p + " with ctx " + ctx,
                    x.logit(0) > 0 == p < ctx);
                Check.due("TOKEN 2 was never there", x.logit(2), 0);
            }
            x.step(2);
            for (int p = 21; p < 40; p++) {
                Check.due("step(3)", x.step(3), p);
                Check.holds("TOKEN 2 is REMEMBERED at " + p + " with ctx " + ctx,
                    x.logit(2) > 0 == p < 20 + ctx);
                Check.holds("TOKEN 1 is REMEMBERED at " + p + " with ctx " + ctx,
                    x.logit(1) > 0 == p < 19 + ctx);
            }
        }
    }

    /** At POSITION 0 there is nothing before: behind reset() and load() all is as at first. */
    private static void firstPositionIsAlone() {
        TextEngine x = Spec.loaded(mean(8));
        x.step(0);
        int first = x.logit(0);
        x.step(1);
        x.step(2);
        x.reset();
        x.step(0);
        Check.due("logit(0) behind reset()", x.logit(0), first);
        Check.due("logit(1) behind reset()", x.logit(1), 0);
        x.step(3);
        Check.due("load()", x.load(), 0);
        x.step(0);
        Check.due("logit(0) behind load()", x.logit(0), first);
        Check.due("logit(3) behind load()", x.logit(3), 0);
    }

    private static void set(Spec s, String name, int row, int column, int n) {
        s.tensor(name).data[10 * row + 2 + column] = (byte) n;
    }

    /**
     * TOKENS 0 and 1 have q and k in different columns, so that z is 0 where 1 looks at 0, and greater
     * by far, with the given SCALE, where it looks at itself. Only TOKEN 0 has a v: LOGIT 0 is what is left.
     */
    private static int lookBack(double scale) {
        Spec s = Spec.sound(new int[] {8, 1, 1, 1, 8, 4}, new int[] {Spec.EIGHTS}, Spec.letters(2), new long[0]);
        for (Spec.Tensor t : s.tensors) {
            for (int row = 0; row < t.rows; row++) {
                t.setHalf(10 * row, Spec.half(t.name.equals("q0") || t.name.equals("k0") ? scale : 1));
            }
        }
        for (int t = 0; t < 2; t++) {
            set(s, "embed", t, t, 2);
            set(s, "norm", 0, t, 2);
            set(s, "a0", 0, t, 2);
            set(s, "q0", 2 * t, t, 8);
            set(s, "k0", 2 * t, t, 8);
        }
        set(s, "v0", 0, 0, 127);
        set(s, "o0", 0, 0, 127);
        set(s, "out", 0, 0, 127);
        TextEngine x = Spec.loaded(s);
        x.step(0);
        x.step(1);
        return x.logit(0);
    }

    /** "EXP of v: v, but at least -16": what is further away counts as much as at -16, and not nothing. */
    private static void expAtLeast() {
        double left = Math.pow(1 - 16 / 256.0, 256) * 127 * 4 * 127;
        int held = lookBack(1);
        Check.holds("what is left of TOKEN 0: " + held, Math.abs(held - left * 2 * 127 * 1024) < 2);
        Check.due("at -90", lookBack(0.5), held);
        Check.due("at -22", lookBack(0.25), held);
        Check.due("at -16.9", lookBack(Spec.valueOf(Spec.near(0.216))), held);
        Check.holds("at -15.4 there is more", lookBack(Spec.valueOf(Spec.near(0.206))) > held * 1.5);
    }

    /** "and at most 16": with g far below 0 the EXP of 0 - g is that of 16. */
    private static void expAtMost() {
        for (double g : new double[] {-7.5, -7.75, -8, -8.25, -8.5, -12, -16}) {
            double exp = Math.pow(1 + Math.min(16, -2 * g) / 256, 256);
            Spec s = Spec.sound(new int[] {8, 1, 1, 1, 8, 4}, new int[] {Spec.HALVES}, Spec.letters(2),
                new long[0]);
            s.tensor("embed").fillHalves(2);
            s.tensor("norm").fillHalves(1, 1, 1, 1, 1, 1, 1, 1);
            s.tensor("f0").fillHalves(1);
            s.tensor("g0").fillHalves(g);
            s.tensor("u0").fillHalves(16);
            s.tensor("d0").fillHalves(0, 0, 0, 0, 0, 0, 0, 0, 16);
            s.tensor("out").fillHalves(0, 16);
            TextEngine x = Spec.loaded(s);
            x.step(0);
            double n = 2 * g / (1 + exp) * 32 * 16;
            int due = (int) (n * 16 / Math.sqrt((4 + n * n) / 8 + 0.5) * 1024);
            Check.due("logit(0) with g " + 2 * g, x.logit(0), due);
        }
    }

    /** Least and greatest of all numbers, as far as they fit into a FILE together: as the Oracle has it. */
    private static void extremeSizes() {
        int fitted = 0;
        for (int code = 0; code < 512; code++) {
            int heads = new int[] {1, 2, 4, 4}[code & 3];
            int kv = (code & 4) == 0 ? 1 : (code & 3) == 2 ? 2 : heads;
            int[] sizes = {(code & 8) == 0 ? 8 : 16, heads, kv, (code & 16) == 0 ? 1 : 2,
                (code & 32) == 0 ? 8 : 16, (code & 64) == 0 ? 2 : 8};
            Spec s = Spec.sound(sizes, new int[] {Spec.FOURS}, Spec.letters(2), new long[0]);
            s.fill(new Random(code), 1.4);
            s.set("eps", Spec.REAL, Spec.real(Spec.half((code & 128) == 0 ? 1.0 / 1024 : 1)));
            s.set("base", Spec.REAL, Spec.real(Spec.half((code & 256) == 0 ? 1 : 16)));
            if (s.build().length <= 1400) {
                fitted++;
                likeOracle("sizes " + code, s);
            }
        }
        Check.holds("many fit: " + fitted, fitted > 200);
    }

    private static void likeOracle(String what, Spec s) {
        TextEngine x = Spec.loaded(s);
        Oracle o = new Oracle();
        for (byte octet : s.build()) {
            o.file(octet, 1);
        }
        Check.due(what + ": the Oracle's load()", o.load(), 0);
        for (int i = 0; i < 11; i++) {
            int t = i * i % 3 % 2;
            Check.due(what + ": step " + i, x.step(t), o.step(t));
            Check.due(what + ": logit(0) behind step " + i, x.logit(0), o.logit(0));
            Check.due(what + ": logit(1) behind step " + i, x.logit(1), o.logit(1));
        }
    }
}
