/** Promise 15, seed: each sentence with its edges. */
public final class Promise15Test {
    public static void main(String[] args) {
        theSeed();
        zeroIsOne();
        theLatest();
        beforeTheModel();
        onlyTheSeed();
        Check.end();
    }

    /** From 16 equal LOGITS at 100 percent the top four bits of the SEED are drawn. */
    private static void dueDraws(String what, TextEngine x, long v) {
        long seed = v;
        for (int i = 0; i < 20; i++) {
            seed = Spec.nextSeed(seed);
            Check.due(what + ", draw " + i, x.draw(100, 16, 100), seed >>> 60);
        }
    }

    /** "The SEED": any long but 0, with its wrap-around. */
    private static void theSeed() {
        TextEngine x = Spec.stepped(new double[16]);
        long[] seeds = {1, -1, 2, Long.MAX_VALUE, Long.MIN_VALUE, 1L << 40, 0xFFFFFFFFL, 1L << 32, 1L << 63 | 1};
        for (long v : seeds) {
            x.seed(v);
            dueDraws("seed(" + v + ")", x, v);
        }
    }

    /** "(0 is 1.)" */
    private static void zeroIsOne() {
        TextEngine x = Spec.stepped(new double[16]);
        x.seed(0);
        dueDraws("seed(0)", x, 1);
        x.seed(1);
        dueDraws("seed(1)", x, 1);
        x.seed(0);
        dueDraws("seed(0) behind another", x, 1);
    }

    private static void theLatest() {
        TextEngine x = Spec.stepped(new double[16]);
        x.seed(5);
        x.seed(0);
        x.seed(7);
        dueDraws("seed(7) behind others", x, 7);
        x.seed(7);
        dueDraws("seed(7) again", x, 7);
    }

    private static void beforeTheModel() {
        TextEngine x = new TextEngine();
        x.seed(-3);
        Spec.feed(x, Spec.withHalfLogits(new double[16]).build());
        x.load();
        x.step(0);
        dueDraws("a SEED from before load()", x, -3);
    }

    private static int seedAndZero(TextEngine x, long v) {
        x.seed(v);
        return 0;
    }

    private static void onlyTheSeed() {
        for (Stage stage : Stage.values()) {
            for (long v : new long[] {0, 1, -1, Long.MIN_VALUE}) {
                Seen.changesOnly("seed(" + v + ")", stage, 0, x -> seedAndZero(x, v), Seen.Part.SEED);
            }
        }
        Seen.changesNothing("seed(1) at first", Stage.LOADED, 0, x -> seedAndZero(x, 1));
    }
}
