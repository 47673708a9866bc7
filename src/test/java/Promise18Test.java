/** Promise 18, said: each sentence with its edges. */
public final class Promise18Test {
    public static void main(String[] args) {
        latestIsZero();
        atMostThirtyTwo();
        overSeveralCalls();
        wrapsAround();
        refused();
        sinceReset();
        readsOnly();
        Check.end();
    }

    /** a is followed by b, b by c, c by d, d by e, e by a; f is stop and follows nothing. */
    private static TextEngine started() {
        TextEngine x = Spec.loaded(Spec.chain(5, 1, 2, 3, 4, 0, 5));
        x.step(0);
        return x;
    }

    private static void due(TextEngine x, int saidInAll) {
        int kept = Math.min(saidInAll, 32);
        for (int k = 0; k < kept; k++) {
            Check.due("said(" + k + ") of " + saidInAll, x.said(k), (saidInAll - k) % 5);
        }
        for (int k = kept; k < kept + 3; k++) {
            Check.due("said(" + k + ") of " + saidInAll, x.said(k), -1);
        }
        Check.due("said(-1) of " + saidInAll, x.said(-1), -1);
    }

    /** "The k-th TOKEN SAID before the latest (0 that one". */
    private static void latestIsZero() {
        TextEngine x = started();
        due(x, 0);
        Check.due("say(1)", x.say(1), 1);
        due(x, 1);
        Check.due("say(1)", x.say(1), 1);
        due(x, 2);
        Check.due("say(16)", x.say(16), 16);
        due(x, 18);
    }

    /** "of the latest 32": 31, 32, 33 and 59 of them. */
    private static void atMostThirtyTwo() {
        for (int all : new int[] {31, 32, 33, 34, 47, 48, 59}) {
            TextEngine x = started();
            int left = all;
            while (left > 0) {
                left -= x.say(Math.min(left, 16));
            }
            due(x, all);
        }
    }

    private static void overSeveralCalls() {
        TextEngine x = started();
        int all = 0;
        for (int n : new int[] {1, 2, 3, 4, 5}) {
            all += x.say(n);
            due(x, all);
        }
    }

    /** At the last POSITION the same TOKEN is SAID again and again: the others go one by one. */
    private static void wrapsAround() {
        TextEngine x = started();
        for (int i = 0; i < 59; i++) {
            x.say(1);
        }
        Check.due("step(0)", x.step(0), -2);
        for (int i = 1; i <= 70; i++) {
            Check.due("say(1) at 60", x.say(1), 1);
            Check.due("said(0)", x.said(0), 0);
            Check.due("said(31)", x.said(31), i >= 32 ? 0 : (59 + i - 31) % 5);
            Check.due("said(32)", x.said(32), -1);
        }
    }

    /** "REFUSED if there is none." */
    private static void refused() {
        for (int k : new int[] {-1, 32, 33, 64, Integer.MIN_VALUE, Integer.MAX_VALUE}) {
            Seen.refusedEverywhere("said(" + k + ")", -1, x -> x.said(k));
        }
        for (Stage stage : new Stage[] {Stage.NEW, Stage.FAULTY, Stage.LOADED}) {
            Seen.changesNothing("said(0)", stage, -1, x -> x.said(0));
            Seen.changesNothing("said(31)", stage, -1, x -> x.said(31));
        }
        Seen.changesNothing("said(6)", Stage.RUNNING, -1, x -> x.said(6));
        TextEngine x = started();
        Check.due("said(0) behind a STEP alone", x.said(0), -1);
        Check.due("said(0) behind draw()", x.draw(100, 2, 50) < 0 ? 0 : x.said(0), -1);
        x.say(0);
        x.say(17);
        Check.due("said(0) behind refusals", x.said(0), -1);
    }

    /** "since RESET". */
    private static void sinceReset() {
        TextEngine x = started();
        x.say(16);
        x.say(16);
        x.say(16);
        x.reset();
        due(x, 0);
        x.step(0);
        due(x, 0);
        x.say(2);
        due(x, 2);
        Check.due("load()", x.load(), 0);
        due(x, 0);
        x.step(0);
        x.say(3);
        x.flip(0, 1);
        Check.due("load() with a FAULT", x.load(), 2);
        due(x, 3);
    }

    private static void readsOnly() {
        TextEngine x = Stage.CROWDED.make();
        int first = x.said(0);
        int last = x.said(31);
        Seen.changesNothing("said(0)", Stage.CROWDED, first, y -> y.said(0));
        Seen.changesNothing("said(31)", Stage.CROWDED, last, y -> y.said(31));
    }
}
