import java.util.Random;

/** Promises 13, 14 and 19: step, logit, reset. */
public final class StepTest {
    public static void main(String[] args) {
        refusals();
        withoutLayers();
        cut();
        mean();
        turning();
        sharedHeads();
        feeding();
        golden();
        greatWeights();
        resets();
        loadResets();
        Check.end();
    }

    private static double[] ones() {
        return new double[] {1, 1, 1, 1, 1, 1, 1, 1};
    }

    private static double[] unit(int side, double v) {
        double[] all = new double[side * side];
        for (int i = 0; i < side; i++) {
            all[i * side + i] = v;
        }
        return all;
    }

    /** TOKEN t is 2 in column t: its NORM is that too, since 4 / 8 + 0.5 is 1. LOGIT i is column i. */
    private static Spec clear(int heads, int kv, int ctx) {
        Spec s = Spec.sound(new int[] {8, heads, kv, 1, 8, ctx}, new int[] {Spec.HALVES},
            new String[] {"a", "b", "c", "d"}, new long[0]);
        double[] embed = new double[32];
        double[] out = new double[32];
        for (int t = 0; t < 4; t++) {
            embed[t * 8 + t] = 2;
            out[t * 8 + t] = 1;
        }
        s.tensor("embed").fillHalves(embed);
        s.tensor("out").fillHalves(out);
        for (String name : new String[] {"norm", "a0", "f0"}) {
            s.tensor(name).fillHalves(ones());
        }
        return s;
    }

    private static void due(TextEngine x, int token, int position, int... logits) {
        Check.due("step(" + token + ")", x.step(token), position);
        for (int k = 0; k < logits.length; k++) {
            Check.due("logit(" + k + ") at POSITION " + position, x.logit(k), logits[k]);
        }
    }

    private static void refusals() {
        TextEngine x = Spec.loaded(Spec.plain());
        Check.due("logit(0) before a STEP", x.logit(0), -3);
        Check.due("logit(9) before a STEP", x.logit(9), -3);
        for (int t : new int[] {-1, 4, 16, Integer.MAX_VALUE, Integer.MIN_VALUE}) {
            Check.due("step(" + t + ")", x.step(t), -1);
            Check.due("logit(0) after a refusal", x.logit(0), -3);
        }
        for (int p = 0; p < 60; p++) {
            Check.due("step", x.step(p % 4), p);
        }
        Check.due("step at POSITION 60", x.step(0), -2);
        Check.due("step with no TOKEN at POSITION 60", x.step(4), -1);
        for (int k : new int[] {-1, 4, 16, Integer.MAX_VALUE, Integer.MIN_VALUE}) {
            Check.due("logit(" + k + ")", x.logit(k), -1);
        }
        Check.due("logit(3) at POSITION 60", x.logit(3), 0);
        Check.due("reset()", x.reset(), 60);
        Check.due("step behind reset()", x.step(3), 0);
    }

    private static void withoutLayers() {
        TextEngine x = Spec.loaded(clear(2, 2, 4));
        due(x, 0, 0, 2048, 0, 0, 0);
        due(x, 2, 1, 0, 0, 2048, 0);
        due(x, 3, 2, 0, 0, 0, 2048);
        Spec s = clear(2, 2, 4);
        s.tensor("norm").fillHalves(0.5, -1, 3, 16, 0, 0, 0, 0);
        x = Spec.loaded(s);
        due(x, 0, 0, 1024, 0, 0, 0);
        due(x, 1, 1, 0, -2048, 0, 0);
        due(x, 2, 2, 0, 0, 6144, 0);
        due(x, 3, 3, 0, 0, 0, 32768);
    }

    /** LOGITS are cut towards 0; these are 2 * 1024 times a weight. */
    private static void cut() {
        Spec s = clear(2, 2, 4);
        double below1 = 2047.0 / 2048 / 2048;
        s.tensor("out").fillHalves(below1, 0, 0, 0, 0, 0, 0, 0, -below1, 0, 0, 0, 0, 0, 0, 0,
            3.5 / 2048, 0, 0, 0, 0, 0, 0, 0, -2.75 / 2048);
        due(Spec.loaded(s), 0, 0, 0, 0, 3, -2);
    }

    /** q and k are 0, so each POSITION that is REMEMBERED has the same part of w. */
    private static void mean() {
        Spec s = clear(2, 2, 2);
        s.tensor("v0").fillHalves(unit(8, 1));
        s.tensor("o0").fillHalves(unit(8, 1));
        TextEngine x = Spec.loaded(s);
        // x is (4, 0 ..): 4 / root of 2.5
        due(x, 0, 0, scaled(4, 16), 0, 0, 0);
        // x is (1, 3, 0 ..)
        due(x, 1, 1, scaled(1, 10), scaled(3, 10), 0, 0);
        // ctx is 2: TOKEN 0 is forgotten
        due(x, 1, 2, 0, scaled(4, 16), 0, 0);
        due(x, 2, 3, 0, scaled(1, 10), scaled(3, 10), 0);
        due(x, 0, 4, scaled(3, 10), 0, scaled(1, 10), 0);
        s.set("ctx", 3);
        x = Spec.loaded(s);
        due(x, 0, 0);
        due(x, 1, 1);
        // x is (2/3, 2/3, 2 + 2/3)
        due(x, 2, 2, scaled(2 / 3.0, 8), scaled(2 / 3.0, 8), scaled(8 / 3.0, 8), 0);
        due(x, 2, 3, 0, scaled(2 / 3.0, 100 / 9.0 + 4 / 9.0), scaled(10 / 3.0, 100 / 9.0 + 4 / 9.0), 0);
    }

    private static int scaled(double v, double squares) {
        return (int) (v / Math.sqrt(squares / 8 + 0.5) * 1024);
    }

    /** Column 0 is the key and, turned by 4 POSITIONS (u is 1), becomes column 1. */
    private static void turning() {
        Spec s = clear(1, 1, 8);
        s.tensor("q0").fillHalves(unit(8, 1));
        s.tensor("k0").fillHalves(unit(8, 1));
        s.tensor("v0").fillHalves(unit(8, 1));
        s.tensor("o0").fillHalves(unit(8, 1));
        TextEngine x = Spec.loaded(s);
        Oracle o = oracle(s);
        int[] tokens = {0, 2, 3, 1, 1, 0, 2, 3, 0, 1, 3, 2};
        for (int i = 0; i < tokens.length; i++) {
            Check.due("step", x.step(tokens[i]), o.step(tokens[i]));
            for (int k = 0; k < 4; k++) {
                Check.due("logit(" + k + ") behind STEP " + i, x.logit(k), o.logit(k));
            }
        }
        // TOKEN 0 at 0, TOKEN 1 at 4 (a quarter turn: its q is minus column 0), alone with one at 1.
        s.set("ctx", 8);
        x = Spec.loaded(s);
        x.step(0);
        x.step(2);
        x.step(2);
        x.step(2);
        x.step(1);
        double root8 = Math.sqrt(8);
        double[] z = {-4 / root8, 0, 0, 0, 4 / root8};
        double e = 0;
        for (double one : z) {
            e += exp(one - z[4]);
        }
        double a = exp(z[0] - z[4]) / e * 2;
        double c = 3 * exp(0 - z[4]) / e * 2;
        double b = 2 + 1 / e * 2;
        double squares = a * a + b * b + c * c;
        Check.due("logit(0) after a quarter turn", x.logit(0), scaled(a, squares));
        Check.due("logit(1) after a quarter turn", x.logit(1), scaled(b, squares));
        Check.due("logit(2) after a quarter turn", x.logit(2), scaled(c, squares));
    }

    private static double exp(double v) {
        return Math.pow(1 + v / 256, 256);
    }

    private static Oracle oracle(Spec s) {
        Oracle o = new Oracle();
        for (byte octet : s.build()) {
            o.file(octet, 1);
        }
        o.load();
        return o;
    }

    /** With 4 heads and 2 of k and v, heads 0 and 1 use the first two columns, 2 and 3 the others. */
    private static void sharedHeads() {
        Spec s = clear(4, 2, 8);
        double[] v = new double[32];
        for (int i = 0; i < 4; i++) {
            v[i * 8] = i + 1;
        }
        s.tensor("v0").fillHalves(v);
        s.tensor("o0").fillHalves(unit(8, 1));
        double[] out = new double[32];
        for (int i = 0; i < 4; i++) {
            out[i * 8 + 1 + 2 * i] = 1;
        }
        s.tensor("out").fillHalves(out);
        // w is 2 * (1, 2, 1, 2, 3, 4, 3, 4); x is that and 2 in column 0
        double squares = 4 * 4 + 4 * (4 + 1 + 4 + 9 + 16 + 9 + 16);
        due(Spec.loaded(s), 0, 0, scaled(4, squares), scaled(4, squares), scaled(8, squares), scaled(8, squares));
    }

    /** g is 2, u is 6, and n goes to another column. */
    private static void feeding() {
        Spec s = clear(2, 2, 4);
        s.tensor("g0").fillHalves(1);
        s.tensor("u0").fillHalves(3);
        s.tensor("d0").fillHalves(0, 0, 0, 0, 0, 0, 0, 0, 0.5);
        double n = 2 / (1 + exp(-2)) * 6 * 0.5;
        due(Spec.loaded(s), 0, 0, scaled(2, 4 + n * n), scaled(n, 4 + n * n), 0, 0);
        // With g at -32 the EXP is held at that of 16.
        s.tensor("g0").fillHalves(-16);
        s.tensor("u0").fillHalves(16);
        s.tensor("d0").fillHalves(0, 0, 0, 0, 0, 0, 0, 0, 16);
        s.tensor("out").fillHalves(0, 16);
        n = -32 / (1 + exp(16)) * 32 * 16;
        Check.due("what is left with that EXP", scaled(16 * n, 4 + n * n), -48);
        due(Spec.loaded(s), 0, 0, -48);
    }

    /** Two layers, shared heads, all packings, a ctx that is left behind: worked out elsewhere. */
    private static void golden() {
        Spec s = Spec.sound(new int[] {8, 4, 2, 2, 8, 3},
            new int[] {Spec.FOURS, Spec.HALVES, Spec.EIGHTS, Spec.FOURS, Spec.FOURS},
            new String[] {"a", "b", "c", "ab", "d"}, new long[] {0, 1});
        s.fill(new Random(5), 1.5);
        s.set("base", Spec.REAL, Spec.real(Spec.half(2.5)));
        s.set("eps", Spec.REAL, Spec.real(Spec.half(0.0625)));
        int[] tokens = {0, 1, 2, 3, 4, 0, 0, 3};
        int[][] logits = {
            {-398, 3412, -1562, 186, 9},
            {-414, 2641, 1154, 856, -43},
            {-918, 263, 1290, 255, -36},
            {319, 1524, 1615, 604, -18},
            {675, 433, 2058, 441, -15},
            {1056, 1478, 1886, 443, 2},
            {1879, 1944, 1196, -704, 47},
            {463, 989, 1806, 573, -16},
        };
        TextEngine x = Spec.loaded(s);
        for (int i = 0; i < tokens.length; i++) {
            due(x, tokens[i], i, logits[i]);
        }
        Check.due("reset()", x.reset(), 8);
        for (int i = 0; i < tokens.length; i++) {
            due(x, tokens[i], i, logits[i]);
        }
    }

    /** The greatest weights there are: ROOT is far from done after its 40 times, and all stays finite. */
    private static void greatWeights() {
        int[] packings = {Spec.EIGHTS};
        Spec s = Spec.sound(new int[] {8, 4, 1, 1, 8, 4}, packings, new String[] {"a", "b"}, new long[0]);
        for (Spec.Tensor t : s.tensors) {
            boolean out = t.name.equals("out");
            for (int at = 0; at < t.data.length; at += 10) {
                java.util.Arrays.fill(t.data, at, at + 10, (byte) (out ? 1 : 127));
                t.setHalf(at, Spec.half(1));
            }
        }
        s.tensor("out").data[2] = 2;
        TextEngine x = Spec.loaded(s);
        Oracle o = oracle(s);
        for (int i = 0; i < 6; i++) {
            Check.due("step", x.step(i % 2), o.step(i % 2));
            Check.due("logit(0) of great weights", x.logit(0), o.logit(0));
            Check.due("logit(1) of great weights", x.logit(1), o.logit(1));
        }
        // With the true root each y would be 127, and this 9 * 127 * 1024.
        Check.holds("ROOT is not done", x.logit(0) > 0 && x.logit(0) < 9 * 127 * 512);
    }

    private static void resets() {
        TextEngine x = Spec.loaded(clear(2, 2, 4));
        Check.due("reset() behind load()", x.reset(), 0);
        x.step(0);
        x.step(0);
        x.step(9);
        Check.due("reset()", x.reset(), 2);
        Check.due("reset() again", x.reset(), 0);
        Check.due("logit behind reset()", x.logit(0), -3);
        Check.due("draw behind reset()", x.draw(0, 1, 1), -3);
        Check.due("say behind reset()", x.say(1), -3);
        Check.due("fact behind reset()", x.fact(0), 8);
        due(x, 1, 0, 0, 2048, 0, 0);
    }

    private static void loadResets() {
        TextEngine x = Spec.loaded(clear(2, 2, 4));
        x.step(1);
        x.flip(0, 1);
        Check.due("load() with a FAULT", x.load(), 2);
        Check.due("a FAULT leaves the LOGITS", x.logit(1), 2048);
        due(x, 2, 1, 0, 0, 2048, 0);
        x.flip(0, 1);
        Check.due("load()", x.load(), 0);
        Check.due("load() forgets the LOGITS", x.logit(1), -3);
        Check.due("load() forgets the STEPS", x.reset(), 0);
        due(x, 1, 0, 0, 2048, 0, 0);
    }
}
