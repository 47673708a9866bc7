/** Promise 11, token: each sentence with its edges. */
public final class Promise11Test {
    public static void main(String[] args) {
        firstAndLast();
        oneAndTwentyFour();
        ofTheLatest();
        refusedWithoutOne();
        refused();
        readsOnly();
        Check.end();
    }

    private static TextEngine engine() {
        return Spec.loaded(Spec.still(4));
    }

    /** "The k-th TOKEN (0 first)". */
    private static void firstAndLast() {
        TextEngine x = engine();
        x.text(0x626364, 3);
        Check.due("encode()", x.encode(), 3);
        Check.due("token(-1)", x.token(-1), -1);
        Check.due("token(0)", x.token(0), 3);
        Check.due("token(1)", x.token(1), 2);
        Check.due("token(2)", x.token(2), 1);
        Check.due("token(3)", x.token(3), -1);
    }

    private static void oneAndTwentyFour() {
        TextEngine x = engine();
        x.text('d', 1);
        x.encode();
        Check.due("token(0) of 1", x.token(0), 3);
        Check.due("token(1) of 1", x.token(1), -1);
        x.text(0x6161616161616162L, 8);
        x.text(0x6161616161616161L, 8);
        x.text(0x6361616161616161L, 8);
        Check.due("encode()", x.encode(), 24);
        Check.due("token(0) of 24", x.token(0), 1);
        Check.due("token(23) of 24", x.token(23), 2);
        Check.due("token(24) of 24", x.token(24), -1);
    }

    /** "of the latest encode()": a shorter one leaves nothing of a longer one. */
    private static void ofTheLatest() {
        TextEngine x = engine();
        x.text(0x64646464, 4);
        x.encode();
        x.text('b', 1);
        Check.due("token(3) before the next encode()", x.token(3), 3);
        x.encode();
        Check.due("token(0)", x.token(0), 1);
        Check.due("token(1)", x.token(1), -1);
        Check.due("token(3)", x.token(3), -1);
        x.encode();
        Check.due("token(0) of an empty TEXT", x.token(0), -1);
    }

    /** "REFUSED if there is none": no encode(), or none since RESET, or no MODEL. */
    private static void refusedWithoutOne() {
        for (Stage stage : new Stage[] {Stage.NEW, Stage.FAULTY, Stage.LOADED}) {
            for (int k : new int[] {0, 1, 23}) {
                Seen.changesNothing("token(" + k + ")", stage, -1, x -> x.token(k));
            }
        }
        TextEngine x = Stage.RUNNING.make();
        x.reset();
        Check.due("token(0) behind reset()", x.token(0), -1);
        x = Stage.RUNNING.make();
        x.load();
        Check.due("token(0) behind load()", x.token(0), -1);
    }

    private static void refused() {
        for (int k : new int[] {-1, 24, 25, Integer.MIN_VALUE, Integer.MAX_VALUE}) {
            Seen.refusedEverywhere("token(" + k + ")", -1, x -> x.token(k));
        }
        Seen.changesNothing("token(3)", Stage.RUNNING, -1, x -> x.token(3));
    }

    /** The Stage's TEXT was abca. */
    private static void readsOnly() {
        int[] due = {2, 3, 0};
        for (int k = 0; k < 3; k++) {
            int one = k;
            Seen.changesNothing("token(" + k + ")", Stage.RUNNING, due[k], x -> x.token(one));
        }
    }
}
