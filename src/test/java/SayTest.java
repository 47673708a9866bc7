/** Promises 17, 18 and what 19 says of them: say, said, reset. */
public final class SayTest {
    public static void main(String[] args) {
        refusals();
        goesOn();
        stops();
        full();
        keeps();
        equalOnes();
        forgets();
        Check.end();
    }

    private static void dueSaid(TextEngine x, int... latestFirst) {
        for (int k = 0; k < latestFirst.length; k++) {
            Check.due("said(" + k + ")", x.said(k), latestFirst[k]);
        }
        Check.due("said behind the last", x.said(latestFirst.length), -1);
    }

    private static void refusals() {
        TextEngine x = Spec.loaded(Spec.chain(3, 1, 2, 0, 3));
        Check.due("say without a STEP", x.say(1), -3);
        Check.due("say(0) without a STEP", x.say(0), -1);
        Check.due("say(17) without a STEP", x.say(17), -1);
        x.step(0);
        for (int n : new int[] {0, -1, 17, Integer.MAX_VALUE, Integer.MIN_VALUE}) {
            Check.due("say(" + n + ")", x.say(n), -1);
        }
        dueSaid(x);
        Check.due("said(-1)", x.said(-1), -1);
        Check.due("say(1)", x.say(1), 1);
        for (int k : new int[] {-1, 1, 32, Integer.MAX_VALUE, Integer.MIN_VALUE}) {
            Check.due("said(" + k + ")", x.said(k), -1);
        }
    }

    private static void goesOn() {
        TextEngine x = Spec.loaded(Spec.chain(3, 1, 2, 0, 3));
        x.step(0);
        Check.due("say(1)", x.say(1), 1);
        dueSaid(x, 1);
        Check.due("logit(2) behind say()", x.logit(2), 2048);
        Check.due("logit(1) behind say()", x.logit(1), 0);
        Check.due("say(2)", x.say(2), 2);
        dueSaid(x, 0, 2, 1);
        Check.due("say(16)", x.say(16), 16);
        dueSaid(x, 1, 0, 2, 1, 0, 2, 1, 0, 2, 1, 0, 2, 1, 0, 2, 1, 0, 2, 1);
        Check.due("a STEP behind them", x.step(0), 20);
        Check.due("reset() counts them", x.reset(), 21);
    }

    private static void stops() {
        TextEngine x = Spec.loaded(Spec.chain(2, 1, 2, 0, 3));
        x.step(0);
        Check.due("say(5) up to stop", x.say(5), 2);
        dueSaid(x, 2, 1);
        Check.due("no STEP with stop", x.logit(2), 2048);
        Check.due("say(5) at stop", x.say(5), 1);
        dueSaid(x, 2, 2, 1);
        Check.due("a STEP behind stop", x.step(2), 2);
        Check.due("say(2)", x.say(2), 2);
        dueSaid(x, 1, 0, 2, 2, 1);
        Check.due("say(1), which is stop", x.say(1), 1);
        dueSaid(x, 2, 1, 0, 2, 2, 1);
        Check.due("reset()", x.reset(), 5);
    }

    private static void full() {
        TextEngine x = Spec.loaded(Spec.chain(3, 1, 2, 0, 3));
        for (int i = 0; i < 58; i++) {
            x.step(0);
        }
        Check.due("say(5) where two STEPS are left", x.say(5), 3);
        dueSaid(x, 0, 2, 1);
        Check.due("step", x.step(0), -2);
        Check.due("say(5) where none is left", x.say(5), 1);
        dueSaid(x, 0, 0, 2, 1);
        Check.due("reset()", x.reset(), 60);
        x.step(0);
        Check.due("say(1) exactly", x.say(1), 1);
        Check.due("step", x.step(0), 2);
    }

    /** Of the TOKENS SAID the latest 32 are kept. */
    private static void keeps() {
        TextEngine x = Spec.loaded(Spec.chain(4, 1, 2, 3, 0, 4));
        x.step(0);
        x.say(15);
        x.say(16);
        int[] due = new int[32];
        for (int k = 0; k < 32; k++) {
            due[k] = (31 - k) % 4;
        }
        Check.due("said(30) of 31", x.said(30), 1);
        Check.due("said(31) of 31", x.said(31), -1);
        Check.due("say(1)", x.say(1), 1);
        Check.due("said(31) of 32", x.said(31), 1);
        Check.due("said(32) of 32", x.said(32), -1);
        x.say(2);
        for (int k = 0; k < 32; k++) {
            due[k] = (34 - k) % 4;
        }
        dueSaid(x, due);
        x.say(16);
        for (int k = 0; k < 32; k++) {
            due[k] = (50 - k) % 4;
        }
        dueSaid(x, due);
    }

    private static void equalOnes() {
        Spec s = Spec.chain(3, 1, 2, 0, 3);
        s.tensor("out").setHalf(2 * 8 * 2, Spec.half(1));
        TextEngine x = Spec.loaded(s);
        x.step(0);
        Check.due("logit(1)", x.logit(1), x.logit(2));
        x.say(1);
        dueSaid(x, 1);
        s.tensor("out").setHalf(0, Spec.half(1));
        x = Spec.loaded(s);
        x.step(0);
        x.say(1);
        dueSaid(x, 0);
    }

    private static void forgets() {
        TextEngine x = Spec.loaded(Spec.chain(3, 1, 2, 0, 3));
        x.step(0);
        x.say(2);
        Check.due("reset()", x.reset(), 3);
        dueSaid(x);
        x.step(0);
        x.say(2);
        x.flip(0, 1);
        Check.due("load() with a FAULT", x.load(), 2);
        dueSaid(x, 2, 1);
        x.flip(0, 1);
        Check.due("load()", x.load(), 0);
        dueSaid(x);
        x.step(1);
        Check.due("say(1)", x.say(1), 1);
        dueSaid(x, 2);
        Check.due("draw leaves what was SAID", x.draw(0, 1, 1), 0);
        dueSaid(x, 2);
    }
}
