/** Promise 14, logit: each sentence with its edges. */
public final class Promise14Test {
    public static void main(String[] args) {
        cutTowardsZero();
        firstAndLast();
        ofTheLatestStep();
        behindRefusals();
        none();
        noneSinceReset();
        refused();
        readsOnly();
        greatestAndLeast();
        Check.end();
    }

    /** "times 1024, cut": LOGITS of a few units of 2^-10, more or less, on both sides of 0. */
    private static void cutTowardsZero() {
        double unit = 1.0 / 1024;
        double[] units = {0, 0.99609375, 1, 1.00390625, 1.99609375, 2, 2.5, 1023.5};
        double[] halves = new double[16];
        for (int i = 0; i < 8; i++) {
            halves[i] = units[i] * unit / 2;
            halves[8 + i] = -halves[i];
        }
        TextEngine x = Spec.loaded(Spec.withHalfLogits(halves));
        x.step(0);
        for (int i = 0; i < 8; i++) {
            Check.due("logit of " + units[i], x.logit(i), (int) Math.floor(units[i]));
            Check.due("logit of -" + units[i], x.logit(8 + i), -(int) Math.floor(units[i]));
        }
    }

    /** "REFUSED if k is no TOKEN": of 2, 4 and 16 the last one, and one more. */
    private static void firstAndLast() {
        for (int n : new int[] {2, 4, 16}) {
            double[] halves = new double[n];
            halves[0] = 1;
            halves[n - 1] = -1;
            TextEngine x = Spec.stepped(halves);
            Check.due("logit(-1) of " + n, x.logit(-1), -1);
            Check.due("logit(0) of " + n, x.logit(0), 2048);
            Check.due("the last of " + n, x.logit(n - 1), -2048);
            Check.due("one more than " + n, x.logit(n), -1);
        }
    }

    /** "LOGIT k behind the latest STEP", one of say() too. */
    private static void ofTheLatestStep() {
        TextEngine x = Spec.loaded(Spec.chain(3, 1, 2, 0, 3));
        int[] follower = {1, 2, 0, 3};
        for (int t : new int[] {0, 1, 2, 3, 0}) {
            x.step(t);
            for (int k = 0; k < 4; k++) {
                Check.due("logit(" + k + ") behind step(" + t + ")", x.logit(k), follower[t] == k ? 2048 : 0);
            }
        }
        x.say(1);
        Check.due("logit(1) behind say()", x.logit(1), 0);
        Check.due("logit(2) behind say()", x.logit(2), 2048);
    }

    /** A STEP that is REFUSED or FULL is none, and draw() is none either. */
    private static void behindRefusals() {
        TextEngine x = Spec.loaded(Spec.chain(3, 1, 2, 0, 3));
        x.step(0);
        x.step(4);
        x.step(-1);
        x.draw(100, 4, 100);
        Check.due("logit(1) behind refusals", x.logit(1), 2048);
        for (int p = 1; p < 60; p++) {
            x.step(0);
        }
        Check.due("step(1) at 60", x.step(1), -2);
        Check.due("logit(1) behind FULL", x.logit(1), 2048);
        Check.due("logit(2) behind FULL", x.logit(2), 0);
    }

    /** "NONE if there was none", without a MODEL too. */
    private static void none() {
        for (Stage stage : new Stage[] {Stage.NEW, Stage.FAULTY, Stage.LOADED}) {
            for (int k : new int[] {0, 3, 4, -1, 16, Integer.MIN_VALUE, Integer.MAX_VALUE}) {
                Seen.changesNothing("logit(" + k + ")", stage, -3, x -> x.logit(k));
            }
        }
    }

    /** "since RESET". */
    private static void noneSinceReset() {
        for (Stage stage : new Stage[] {Stage.RUNNING, Stage.LAST, Stage.CROWDED}) {
            TextEngine x = stage.make();
            x.reset();
            Check.due("logit(0) behind reset()", x.logit(0), -3);
            x = stage.make();
            Check.due("load()", x.load(), 0);
            Check.due("logit(0) behind load()", x.logit(0), -3);
            Check.due("step(9)", x.step(9), -1);
            Check.due("logit(0) behind a STEP that was REFUSED", x.logit(0), -3);
        }
    }

    private static void refused() {
        for (Stage stage : new Stage[] {Stage.RUNNING, Stage.LAST, Stage.CROWDED}) {
            for (int k : new int[] {-1, 4, 15, 16, Integer.MIN_VALUE, Integer.MAX_VALUE}) {
                Seen.changesNothing("logit(" + k + ")", stage, -1, x -> x.logit(k));
            }
        }
    }

    private static void readsOnly() {
        for (int k = 0; k < 4; k++) {
            int one = k;
            int due = Stage.RUNNING.make().logit(k);
            Seen.changesNothing("logit(" + k + ")", Stage.RUNNING, due, x -> x.logit(one));
        }
    }

    /** Weights of -128 and 127 throughout norm and out; each x is 1, eps is 1, so 1 / ROOT of 2 is left. */
    private static void greatestAndLeast() {
        int[] packings = new int[12];
        java.util.Arrays.fill(packings, Spec.FOURS);
        java.util.Arrays.fill(packings, 0, 3, Spec.EIGHTS);
        Spec s = Spec.sound(new int[] {8, 1, 1, 1, 8, 2}, packings, Spec.letters(2), new long[0]);
        s.set("eps", Spec.REAL, Spec.real(Spec.half(1)));
        for (String name : new String[] {"embed", "norm", "out"}) {
            Spec.Tensor t = s.tensor(name);
            for (int row = 0; row < t.rows; row++) {
                java.util.Arrays.fill(t.data, 10 * row, 10 * row + 10,
                    (byte) (name.equals("embed") ? 1 : name.equals("norm") || row == 1 ? -128 : 127));
                t.setHalf(10 * row, Spec.half(1));
            }
        }
        TextEngine x = Spec.loaded(s);
        x.step(0);
        double y = -128 / Math.sqrt(2);
        Check.holds("logit(0)", Math.abs(x.logit(0) - 8 * 127 * y * 1024) < 64);
        Check.holds("logit(1)", Math.abs(x.logit(1) + 8 * 128 * y * 1024) < 64);
        Check.due("one is the other, but for 127 and 128", x.logit(0) / 127, -(x.logit(1) / 128));
    }
}
