/** Promise 7, fact: each sentence with its edges. */
public final class Promise07Test {
    public static void main(String[] args) {
        leastOfEach();
        mostOfEach();
        alignOrNot();
        none();
        refused();
        readsOnly();
        ofTheModelNotTheFile();
        Check.end();
    }

    private static void due(TextEngine x, int... facts) {
        for (int what = 0; what < facts.length; what++) {
            Check.due("fact(" + what + ")", x.fact(what), facts[what]);
        }
    }

    /** "what 0: dim, 1: heads, 2: kv, 3: layers, 4: ffn, 5: ctx, 6: TOKENS, 7: merges, 8: stop, 9: PAIRS .." */
    private static void leastOfEach() {
        Spec s = Spec.sound(new int[] {8, 1, 1, 1, 8, 2}, new int[] {Spec.FOURS}, Spec.letters(2), new long[0]);
        s.align = 1;
        due(Spec.loaded(s.set("align", 1).set("stop", 0)), 8, 1, 1, 1, 8, 2, 2, 0, 0, 12, 12, 1);
    }

    /** The greatest of all that fit into a FILE together, then dim and ffn of 16. */
    private static void mostOfEach() {
        String[] words = Spec.letters(16);
        words[15] = "ab";
        long[] merges = new long[24];
        for (int i = 1; i < 24; i += 2) {
            merges[i] = 1;
        }
        Spec s = Spec.sound(new int[] {8, 4, 4, 1, 8, 8}, new int[] {Spec.FOURS}, words, merges);
        s.align = 4;
        s.set("align", 4).set("stop", 15);
        for (int i = s.pairs.size(); i < 24; i++) {
            s.set("p" + i, Spec.TEXT, Spec.string(""));
        }
        for (int i = s.tensors.size(); i < 24; i++) {
            s.tensors.add(new Spec.Tensor("t" + i, 1, 1, Spec.HALVES));
        }
        due(Spec.loaded(s), 8, 4, 4, 1, 8, 8, 16, 12, 15, 24, 24, 4);
        Spec wide = Spec.sound(new int[] {16, 4, 1, 1, 16, 8}, new int[] {Spec.FOURS}, Spec.letters(2),
            new long[0]);
        due(Spec.loaded(wide), 16, 4, 1, 1, 16, 8, 2, 0, 0, 11, 12, 8);
        Spec two = Spec.sound(new int[] {8, 2, 2, 2, 8, 8}, new int[] {Spec.FOURS}, Spec.letters(2), new long[0]);
        due(Spec.loaded(two), 8, 2, 2, 2, 8, 8, 2, 0, 0, 11, 21, 8);
    }

    /** "11: ALIGN", which is "align (a NUMBER 1..64), if that KEY is there (8 if not)". */
    private static void alignOrNot() {
        for (int align : new int[] {1, 2, 8, 63, 64}) {
            Spec s = Spec.sound(new int[] {8, 1, 1, 1, 8, 2}, new int[] {Spec.FOURS}, Spec.letters(2),
                new long[0]).set("align", align);
            s.align = align;
            Check.due("fact(11)", Spec.loaded(s).fact(11), align);
        }
        Check.due("fact(11) without align", Spec.loaded(Spec.still(2)).fact(11), 8);
        TextEngine x = Spec.loaded(Spec.still(2).set("align", 8));
        Check.due("fact(9) counts align", x.fact(9), 12);
        x.clear();
        Spec.feed(x, Spec.still(2).build());
        Check.due("load()", x.load(), 0);
        Check.due("fact(9) without align", x.fact(9), 11);
        Check.due("fact(11) behind another ALIGN", x.fact(11), 8);
    }

    /** "NONE without one". */
    private static void none() {
        for (int what = 0; what < 12; what++) {
            int one = what;
            Seen.changesNothing("fact(" + what + ")", Stage.NEW, -3, x -> x.fact(one));
            Seen.changesNothing("fact(" + what + ")", Stage.FAULTY, -3, x -> x.fact(one));
        }
    }

    /** "REFUSED for others." */
    private static void refused() {
        for (int what : new int[] {-1, 12, 13, 24, 100, Integer.MIN_VALUE, Integer.MAX_VALUE}) {
            Seen.refusedOrNone("fact(" + what + ")", x -> x.fact(what));
        }
    }

    private static void readsOnly() {
        int[] due = {8, 2, 1, 1, 8, 4, 4, 1, 3, 11, 12, 8};
        for (int what = 0; what < 12; what++) {
            int one = what;
            Seen.changesNothing("fact(" + what + ")", Stage.RUNNING, due[what], x -> x.fact(one));
        }
    }

    private static void ofTheModelNotTheFile() {
        TextEngine x = Spec.engine(Spec.still(5).set("stop", 4).build());
        Check.due("fact(6) before load()", x.fact(6), -3);
        x.load();
        Check.due("fact(6)", x.fact(6), 5);
        x.clear();
        Spec.feed(x, Spec.still(2).build());
        Check.due("fact(6) with another FILE", x.fact(6), 5);
        Check.due("fact(8) with another FILE", x.fact(8), 4);
        Check.due("load()", x.load(), 0);
        Check.due("fact(6) of the new MODEL", x.fact(6), 2);
        Check.due("fact(8) of the new MODEL", x.fact(8), 0);
    }
}
