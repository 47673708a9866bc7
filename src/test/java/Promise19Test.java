/** Promise 19, reset: each sentence with its edges. */
public final class Promise19Test {
    public static void main(String[] args) {
        nothingRemembered();
        noLogits();
        nothingSaid();
        noTokens();
        emptyText();
        seedStays();
        counts();
        sinceTheOneBefore();
        leavesTheRest();
        withoutAModel();
        Check.end();
    }

    private static final Stage[] RUNS = {Stage.RUNNING, Stage.LAST, Stage.CROWDED};

    /** "nothing is REMEMBERED": the STEPS behind it answer as those of an object without a past. */
    private static void nothingRemembered() {
        for (Stage stage : RUNS) {
            TextEngine x = stage.make();
            TextEngine fresh = Stage.LOADED.make();
            x.reset();
            for (int i = 0; i < 12; i++) {
                int t = i * i % 4;
                Check.due("step(" + t + ") behind reset()", x.step(t), i);
                fresh.step(t);
                for (int k = 0; k < 4; k++) {
                    Check.due("logit(" + k + ") behind reset()", x.logit(k), fresh.logit(k));
                }
            }
        }
    }

    /** "no LOGITS". */
    private static void noLogits() {
        for (Stage stage : RUNS) {
            TextEngine x = stage.make();
            x.reset();
            Check.due("logit(0)", x.logit(0), -3);
            Check.due("logit(9)", x.logit(9), -3);
            Check.due("draw(0, 1, 1)", x.draw(0, 1, 1), -3);
            Check.due("say(1)", x.say(1), -3);
        }
    }

    /** "nothing SAID". */
    private static void nothingSaid() {
        for (Stage stage : RUNS) {
            TextEngine x = stage.make();
            x.reset();
            for (int k = 0; k < 33; k++) {
                Check.due("said(" + k + ")", x.said(k), -1);
            }
        }
    }

    /** "no TOKENS of encode()". */
    private static void noTokens() {
        for (Stage stage : RUNS) {
            TextEngine x = stage.make();
            Check.due("token(0) before", x.token(0), 2);
            x.reset();
            for (int k = 0; k < 24; k++) {
                Check.due("token(" + k + ")", x.token(k), -1);
            }
        }
    }

    /** "the TEXT is empty". */
    private static void emptyText() {
        for (Stage stage : Stage.values()) {
            TextEngine x = stage.make();
            x.reset();
            Check.due("text(97, 8)", x.text(97, 8), 8);
            Check.due("text(97, 8)", x.text(97, 8), 16);
            Check.due("text(97, 8)", x.text(97, 8), 24);
        }
        TextEngine x = Stage.CROWDED.make();
        x.reset();
        Check.due("encode()", x.encode(), 0);
    }

    /** "the SEED stays", where it has moved too. */
    private static void seedStays() {
        TextEngine x = Spec.stepped(new double[16]);
        long seed = 123;
        x.seed(123);
        for (int i = 0; i < 10; i++) {
            Check.due("reset()", x.reset(), 1);
            Check.due("step(0)", x.step(0), 0);
            seed = Spec.nextSeed(seed);
            Check.due("draw " + i, x.draw(100, 16, 100), seed >>> 60);
        }
    }

    /** ": how many STEPS there were since the one before": of 0, 1, 2, 59 and 60, those of say() too. */
    private static void counts() {
        for (int steps : new int[] {0, 1, 2, 59, 60}) {
            TextEngine x = Stage.LOADED.make();
            for (int i = 0; i < steps; i++) {
                x.step(i % 4);
            }
            Check.due("reset() behind " + steps, x.reset(), steps);
            Check.due("reset() again", x.reset(), 0);
        }
        for (Stage stage : Stage.values()) {
            Check.due("reset() in stage " + stage, stage.make().reset(), stage.steps);
        }
        TextEngine x = Stage.LAST.make();
        x.step(0);
        x.step(9);
        x.say(1);
        Check.due("reset() behind FULL", x.reset(), 60);
        x.step(9);
        x.step(-1);
        Check.due("reset() behind refusals alone", x.reset(), 0);
    }

    /** A load() without FAULT is a RESET too, one with a FAULT is none. */
    private static void sinceTheOneBefore() {
        TextEngine x = Stage.LOADED.make();
        x.step(0);
        x.step(1);
        Check.due("reset()", x.reset(), 2);
        x.step(0);
        x.step(0);
        x.step(0);
        Check.due("reset() once more", x.reset(), 3);
        x.step(0);
        Check.due("load()", x.load(), 0);
        x.step(0);
        x.step(0);
        Check.due("reset() behind load()", x.reset(), 2);
        x.step(0);
        x.flip(5, 1);
        Check.due("load() with a FAULT", x.load(), 3);
        x.step(0);
        Check.due("reset() behind a FAULT", x.reset(), 2);
    }

    /** The FILE, the MODEL, the SEED and the place of a FAULT are left alone. */
    private static void leavesTheRest() {
        for (Stage stage : Stage.values()) {
            Seen.changesOnly("reset()", stage, stage.steps, TextEngine::reset, Seen.Part.TOKENS, Seen.Part.SAID,
                Seen.Part.LOGITS, Seen.Part.SEED, Seen.Part.TEXT, Seen.Part.STEPS);
        }
        Seen.changesNothing("reset()", Stage.NEW, 0, TextEngine::reset);
        Seen.changesNothing("reset()", Stage.LOADED, 0, TextEngine::reset);
    }

    private static void withoutAModel() {
        TextEngine x = new TextEngine();
        Check.due("reset()", x.reset(), 0);
        x.text(97, 8);
        Check.due("reset()", x.reset(), 0);
        Check.due("text(97, 1)", x.text(97, 1), 1);
        Check.due("step(0)", x.step(0), -3);
        Check.due("reset()", x.reset(), 0);
    }
}
