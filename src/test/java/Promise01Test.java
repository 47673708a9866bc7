/** Promise 1, a new object: each sentence with its edges. */
public final class Promise01Test {
    public static void main(String[] args) {
        constants();
        emptyFile();
        emptyText();
        noModel();
        nothingYet();
        seedOne();
        nothingShared();
        fiveHundredTwelveCalls();
        Check.end();
    }

    /** "The constants: REFUSED = -1, FULL = -2, NONE = -3". */
    private static void constants() {
        Check.due("REFUSED", TextEngine.REFUSED, -1);
        Check.due("FULL", TextEngine.FULL, -2);
        Check.due("NONE", TextEngine.NONE, -3);
    }

    /** "An empty FILE". */
    private static void emptyFile() {
        Check.due("new: clear()", new TextEngine().clear(), 0);
        Check.due("new: flip(0, 0)", new TextEngine().flip(0, 0), -1);
        Check.due("new: file(0, 1)", new TextEngine().file(0, 1), 1);
        TextEngine x = new TextEngine();
        Check.due("new: load()", x.load(), 1);
        Check.due("new: place() behind load()", x.place(), 0);
    }

    /** "An empty .. TEXT": 24 OCTETS have room. */
    private static void emptyText() {
        TextEngine x = new TextEngine();
        Check.due("new: text(0, 8)", x.text(0, 8), 8);
        Check.due("new: text(0, 8) again", x.text(0, 8), 16);
        Check.due("new: text(0, 8) thrice", x.text(0, 8), 24);
        Check.due("new: text(0, 1) at last", x.text(0, 1), -2);
    }

    /** "no MODEL". */
    private static void noModel() {
        for (int what = 0; what < 12; what++) {
            Check.due("new: fact(" + what + ")", new TextEngine().fact(what), -3);
        }
        TextEngine x = new TextEngine();
        Check.due("new: weight(0, 0, 0)", x.weight(0, 0, 0), -3);
        Check.due("new: encode()", x.encode(), -3);
        Check.due("new: step(0)", x.step(0), -3);
        Check.due("new: letter(0, 0)", x.letter(0, 0), -1);
    }

    /** No load(), encode(), STEP or TOKEN SAID yet. */
    private static void nothingYet() {
        TextEngine x = new TextEngine();
        Check.due("new: place()", x.place(), -1);
        Check.due("new: token(0)", x.token(0), -1);
        Check.due("new: said(0)", x.said(0), -1);
        Check.due("new: logit(0)", x.logit(0), -3);
        Check.due("new: draw(0, 1, 1)", x.draw(0, 1, 1), -3);
        Check.due("new: say(1)", x.say(1), -3);
        Check.due("new: reset()", x.reset(), 0);
    }

    /** "SEED 1": from 16 equal LOGITS at 100 percent the top four bits of the SEED are drawn. */
    private static void seedOne() {
        TextEngine x = Spec.stepped(new double[16]);
        long seed = 1;
        for (int i = 0; i < 12; i++) {
            seed = Spec.nextSeed(seed);
            Check.due("new: draw " + i, x.draw(100, 16, 100), seed >>> 60);
        }
    }

    private static void nothingShared() {
        TextEngine x = Stage.RUNNING.make();
        Check.due("another has a MODEL", x.fact(0), 8);
        emptyFile();
        emptyText();
        noModel();
        nothingYet();
        Check.due("and keeps it", x.step(0), Stage.RUNNING.steps);
    }

    /** "An object is used for at most 512 calls after it has been made": the last of them answers too. */
    private static void fiveHundredTwelveCalls() {
        byte[] octets = Spec.withHalfLogits(new double[16]).build();
        TextEngine x = Spec.engine(octets);
        int calls = (octets.length + 7) / 8;
        x.load();
        x.step(0);
        calls += 2;
        long seed = 1;
        while (calls < 512) {
            seed = Spec.nextSeed(seed);
            calls++;
            Check.due("call " + calls, x.draw(100, 16, 100), seed >>> 60);
        }
    }
}
