/** Promise 12, letter: each sentence with its edges. */
public final class Promise12Test {
    private static final String[] WORDS = {"a", "bc", "\u0000\u00ff\u0080", "wxyz"};

    public static void main(String[] args) {
        eachOctet();
        sixteenTokens();
        refused();
        withoutAModel();
        readsOnly();
        ofTheModel();
        Check.end();
    }

    private static TextEngine engine(String... words) {
        return Spec.loaded(Spec.sound(new int[] {8, 2, 1, 1, 8, 4}, new int[] {Spec.FOURS}, words, new long[0]));
    }

    /** "OCTET i of a TOKEN of the MODEL": TOKENS of 1 to 4 OCTETS, and "REFUSED if there is none". */
    private static void eachOctet() {
        TextEngine x = engine(WORDS);
        for (int t = -1; t <= WORDS.length; t++) {
            for (int i = -1; i <= 5; i++) {
                boolean is = t >= 0 && t < WORDS.length && i >= 0 && i < WORDS[t].length();
                Check.due("letter(" + t + ", " + i + ")", x.letter(t, i), is ? WORDS[t].charAt(i) : -1);
            }
        }
    }

    private static void sixteenTokens() {
        String[] words = Spec.letters(16);
        TextEngine x = engine(words);
        for (int t = 0; t < 16; t++) {
            Check.due("letter(" + t + ", 0)", x.letter(t, 0), 'a' + t);
        }
        Check.due("letter(16, 0)", x.letter(16, 0), -1);
        Check.due("letter(15, 1)", x.letter(15, 1), -1);
    }

    private static void refused() {
        for (int wrong : new int[] {-1, 4, 16, 32, Integer.MIN_VALUE, Integer.MAX_VALUE}) {
            Seen.refusedEverywhere("letter(" + wrong + ", 0)", -1, x -> x.letter(wrong, 0));
            Seen.refusedEverywhere("letter(2, " + wrong + ")", -1, x -> x.letter(2, wrong));
        }
        Seen.refusedEverywhere("letter(0, 1)", -1, x -> x.letter(0, 1));
        Seen.refusedEverywhere("letter(2, 2)", -1, x -> x.letter(2, 2));
    }

    /** Without a MODEL there is no TOKEN: "REFUSED if there is none." */
    private static void withoutAModel() {
        for (int t = 0; t < 16; t++) {
            int token = t;
            Seen.changesNothing("letter(" + t + ", 0)", Stage.NEW, -1, x -> x.letter(token, 0));
            Seen.changesNothing("letter(" + t + ", 0)", Stage.FAULTY, -1, x -> x.letter(token, 0));
        }
    }

    private static void readsOnly() {
        Seen.changesNothing("letter(2, 1)", Stage.RUNNING, 'b', x -> x.letter(2, 1));
    }

    /** Of a longer MODEL before nothing is left. */
    private static void ofTheModel() {
        TextEngine x = engine("abcd", "efgh", "ijkl");
        x.clear();
        Spec.feed(x, Spec.still(2).build());
        Check.due("letter(0, 3) before load()", x.letter(0, 3), 'd');
        Check.due("load()", x.load(), 0);
        Check.due("letter(0, 0)", x.letter(0, 0), 'a');
        Check.due("letter(0, 1)", x.letter(0, 1), -1);
        Check.due("letter(2, 0)", x.letter(2, 0), -1);
    }
}
