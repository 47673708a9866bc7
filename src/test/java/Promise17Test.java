/** Promise 17, say: each sentence with its edges. */
public final class Promise17Test {
    public static void main(String[] args) {
        upToN();
        greatestLogit();
        endsBehindStop();
        stopAtOnce();
        stopAsTheLast();
        endsWhereFull();
        stopWhereFull();
        refused();
        none();
        refusedBeforeNone();
        onlyStepsAndSaid();
        Check.end();
    }

    /** a is followed by b, b by c, c by a; d is stop, and follows only itself. */
    private static TextEngine endless() {
        return Spec.loaded(Spec.chain(3, 1, 2, 0, 3));
    }

    /** a, b, c, d one behind the other; d is stop. */
    private static TextEngine ending() {
        return Spec.loaded(Spec.chain(3, 1, 2, 3, 0));
    }

    private static void dueSaid(TextEngine x, int... latestFirst) {
        for (int k = 0; k < latestFirst.length; k++) {
            Check.due("said(" + k + ")", x.said(k), latestFirst[k]);
        }
        Check.due("said(" + latestFirst.length + ")", x.said(latestFirst.length), -1);
    }

    /** "Up to n (1..16) times the TOKEN with the greatest LOGIT is SAID, and .. a STEP is done with it". */
    private static void upToN() {
        for (int n = 1; n <= 16; n++) {
            TextEngine x = endless();
            x.step(0);
            Check.due("say(" + n + ")", x.say(n), n);
            int[] due = new int[n];
            for (int k = 0; k < n; k++) {
                due[k] = (n - k) % 3;
            }
            dueSaid(x, due);
            Check.due("the greatest LOGIT behind say(" + n + ")", x.draw(0, 1, 1), (n + 1) % 3);
            Check.due("the next POSITION", x.step(0), n + 1);
            Check.due("STEPS", x.reset(), n + 2);
        }
    }

    /** Of equal ones the least TOKEN, as in DRAWING. */
    private static void greatestLogit() {
        TextEngine x = Spec.stepped(0, 2, 2, 1);
        Check.due("say(1)", x.say(1), 1);
        Check.due("said(0)", x.said(0), 1);
        x = Spec.loaded(Spec.withHalfLogits(0, 0).set("stop", 1));
        x.step(0);
        Check.due("say(2)", x.say(2), 2);
        dueSaid(x, 0, 0);
        x = Spec.loaded(Spec.withHalfLogits(-2, -1).set("stop", 1));
        x.step(0);
        Check.due("say(2) with LOGITS below 0", x.say(2), 1);
        dueSaid(x, 1);
        double[] last = new double[16];
        last[15] = 0.5;
        x = Spec.loaded(Spec.withHalfLogits(last).set("stop", 15));
        x.step(0);
        Check.due("say(16) with the last of 16", x.say(16), 1);
        dueSaid(x, 15);
    }

    /** "it ends behind stop": stop is SAID and counted, and no STEP is done with it. */
    private static void endsBehindStop() {
        TextEngine x = ending();
        x.step(0);
        Check.due("say(16)", x.say(16), 3);
        dueSaid(x, 3, 2, 1);
        Check.due("the LOGITS are those behind c", x.logit(3), 2048);
        Check.due("the next POSITION", x.step(3), 3);
        Check.due("STEPS", x.reset(), 4);
    }

    /** Where stop has the greatest LOGIT at once, it is SAID each time again. */
    private static void stopAtOnce() {
        TextEngine x = ending();
        x.step(2);
        for (int n : new int[] {1, 16, 2}) {
            Check.due("say(" + n + ") at stop", x.say(n), 1);
        }
        dueSaid(x, 3, 3, 3);
        Check.due("no STEP was done", x.reset(), 1);
    }

    /** n is just as much as up to stop, one less, and one more. */
    private static void stopAsTheLast() {
        TextEngine x = ending();
        x.step(0);
        Check.due("say(2) before stop", x.say(2), 2);
        dueSaid(x, 2, 1);
        Check.due("say(1) with stop", x.say(1), 1);
        dueSaid(x, 3, 2, 1);
        Check.due("STEPS", x.reset(), 3);
        x.step(0);
        Check.due("say(3) just up to stop", x.say(3), 3);
        dueSaid(x, 3, 2, 1);
        Check.due("STEPS", x.reset(), 3);
        x.step(0);
        Check.due("say(4) beyond stop", x.say(4), 3);
        dueSaid(x, 3, 2, 1);
    }

    private static TextEngine withSteps(TextEngine x, int steps, int token) {
        for (int p = 0; p < steps; p++) {
            Check.due("step", x.step(token), p);
        }
        return x;
    }

    /** "and where a STEP would be FULL": the TOKEN for which there is no STEP is SAID, as the last. */
    private static void endsWhereFull() {
        for (int left = 0; left <= 3; left++) {
            for (int n = 1; n <= 6; n++) {
                TextEngine x = withSteps(endless(), 60 - left, 0);
                int due = Math.min(n, left + 1);
                Check.due("say(" + n + ") with " + left + " STEPS left", x.say(n), due);
                Check.due("said(0)", x.said(0), due % 3);
                Check.due("said(" + due + ")", x.said(due), -1);
                int steps = 60 - left + Math.min(n, left);
                Check.due("step(0)", x.step(0), steps < 60 ? steps : -2);
            }
        }
        TextEngine x = withSteps(endless(), 60, 1);
        Check.due("say(16) at 60", x.say(16), 1);
        Check.due("say(1) at 60", x.say(1), 1);
        dueSaid(x, 2, 2);
        Check.due("the LOGITS stay", x.logit(2), 2048);
        Check.due("STEPS", x.reset(), 60);
    }

    private static void stopWhereFull() {
        TextEngine x = withSteps(ending(), 60, 2);
        Check.due("say(16) at 60, which is stop", x.say(16), 1);
        dueSaid(x, 3);
        x = withSteps(ending(), 59, 1);
        Check.due("say(16) at 59, then stop", x.say(16), 2);
        dueSaid(x, 3, 2);
        Check.due("STEPS", x.reset(), 60);
    }

    /** "REFUSED for another n". */
    private static void refused() {
        for (int n : new int[] {0, 17, -1, 32, Integer.MIN_VALUE, Integer.MAX_VALUE}) {
            Seen.refusedEverywhere("say(" + n + ")", -1, x -> x.say(n));
        }
    }

    /** "NONE if there was no STEP since RESET." */
    private static void none() {
        for (int n : new int[] {1, 2, 16}) {
            for (Stage stage : new Stage[] {Stage.NEW, Stage.FAULTY, Stage.LOADED}) {
                Seen.changesNothing("say(" + n + ")", stage, -3, x -> x.say(n));
            }
        }
        TextEngine x = endless();
        x.step(0);
        x.reset();
        Check.due("say(1) behind reset()", x.say(1), -3);
        x.step(0);
        Check.due("load()", x.load(), 0);
        Check.due("say(1) behind load()", x.say(1), -3);
        Check.due("step(9)", x.step(9), -1);
        Check.due("say(1) behind a STEP that was REFUSED", x.say(1), -3);
    }

    private static void refusedBeforeNone() {
        for (Stage stage : new Stage[] {Stage.NEW, Stage.FAULTY, Stage.LOADED}) {
            Check.due("say(0)", stage.make().say(0), -1);
            Check.due("say(17)", stage.make().say(17), -1);
        }
    }

    private static void onlyStepsAndSaid() {
        for (Stage stage : new Stage[] {Stage.RUNNING, Stage.CROWDED}) {
            Seen.changesOnly("say(3)", stage, 3, x -> x.say(3), Seen.Part.SAID, Seen.Part.LOGITS,
                Seen.Part.SEED, Seen.Part.STEPS);
        }
        // The SEED is not used: draws behind say() from equal LOGITS begin with the first.
        TextEngine x = Spec.stepped(new double[16]);
        x.say(16);
        long seed = 1;
        for (int i = 0; i < 5; i++) {
            seed = Spec.nextSeed(seed);
            Check.due("draw " + i + " behind say()", x.draw(100, 16, 100), seed >>> 60);
        }
        Seen.changesOnly("say(16)", Stage.LAST, 1, y -> y.say(16), Seen.Part.SAID);
    }
}
