import java.util.Arrays;

/** Promise 10, encode: each sentence with its edges. */
public final class Promise10Test {
    public static void main(String[] args) {
        emptyText();
        fullText();
        textIsEmptyThen();
        octetAloneOrTokenZero();
        firstMergeOfTheRow();
        ofSeveralTheOnesInFront();
        asLongAsThereAreSome();
        twelveMerges();
        mergesOfTokenZero();
        none();
        onlyTextAndTokens();
        Check.end();
    }

    private static TextEngine engine(String[] words, long... merges) {
        return Spec.loaded(Spec.sound(new int[] {8, 2, 1, 1, 8, 4}, new int[] {Spec.FOURS}, words, merges));
    }

    private static void due(TextEngine x, String text, int... tokens) {
        for (int i = 0; i < text.length(); i++) {
            Check.due("text", x.text(text.charAt(i), 1), i + 1);
        }
        Check.due("encode() of " + text, x.encode(), tokens.length);
        for (int k = 0; k < tokens.length; k++) {
            Check.due("token(" + k + ") of " + text, x.token(k), tokens[k]);
        }
        for (int k = tokens.length; k < 25; k++) {
            Check.due("token(" + k + ") behind the last of " + text, x.token(k), -1);
        }
    }

    private static void emptyText() {
        TextEngine x = engine(new String[] {"a", "b", "ab"}, 0, 1);
        due(x, "");
        due(x, "a", 0);
        due(x, "");
    }

    private static void fullText() {
        int[] each = new int[24];
        for (int i = 0; i < 24; i++) {
            each[i] = i % 3 == 2 ? 0 : 1;
        }
        due(engine(new String[] {"b", "a"}), "aabaabaabaabaabaabaabaab", each);
        int[] half = new int[12];
        Arrays.fill(half, 2);
        due(engine(new String[] {"a", "b", "ab"}, 0, 1), "abababababababababababab", half);
        due(engine(new String[] {"a", "aa", "aaaa", "aaa"}, 0, 0, 1, 1), "aaaaaaaaaaaaaaaaaaaaaaaa",
            2, 2, 2, 2, 2, 2);
        int[] threes = new int[8];
        Arrays.fill(threes, 2);
        due(engine(new String[] {"a", "aa", "aaa"}, 1, 0, 0, 0), "aaaaaaaaaaaaaaaaaaaaaaaa", threes);
    }

    /** "The TEXT, which is empty then". */
    private static void textIsEmptyThen() {
        TextEngine x = engine(new String[] {"a", "b"});
        due(x, "abababababababababababab", 0, 1, 0, 1, 0, 1, 0, 1, 0, 1, 0, 1, 0, 1, 0, 1, 0, 1, 0, 1, 0, 1, 0, 1);
        Check.due("text() behind encode()", x.text(98, 1), 1);
        Check.due("encode()", x.encode(), 1);
        Check.due("encode() again", x.encode(), 0);
        Check.due("token(0) of nothing", x.token(0), -1);
    }

    /** "Each OCTET is the TOKEN that is this OCTET alone, or TOKEN 0 if there is none". */
    private static void octetAloneOrTokenZero() {
        String[] words = {"xy", "\u0000", "\u00ff", "\u007f", "\u0080", "ab", "a\u0000", "a"};
        TextEngine x = engine(words);
        due(x, "\u0000\u00ff\u007f\u0080a", 1, 2, 3, 4, 7);
        due(x, "xyb\u0001\u00fe", 0, 0, 0, 0, 0);
        due(x, "ab", 7, 0);
        due(engine(new String[] {"a", "bb"}), "b", 0);
        due(engine(new String[] {"bb", "cc"}), "bcbb", 0, 0, 0, 0);
        String[] most = Spec.letters(16);
        due(engine(most), "apo", 0, 15, 14);
    }

    /** "the ones with the first such merge": its place in the row counts, not that in the TEXT. */
    private static void firstMergeOfTheRow() {
        String[] words = {"a", "b", "c", "ab", "bc", "abc"};
        due(engine(words, 0, 1, 1, 2), "abc", 3, 2);
        due(engine(words, 1, 2, 0, 1), "abc", 0, 4);
        due(engine(words, 1, 2, 0, 1), "abcab", 0, 4, 3);
        due(engine(words, 3, 2, 0, 4, 1, 2, 0, 1), "abc", 5);
        due(engine(words, 0, 1, 3, 2), "abcabc", 5, 5);
        due(engine(words, 0, 1, 0, 1), "abab", 3, 3);
        // What a merge makes is looked at from the first merge on again.
        due(engine(words, 3, 2, 0, 1, 1, 2), "abcbc", 5, 4);
    }

    /** "(of several the ones in front)". */
    private static void ofSeveralTheOnesInFront() {
        String[] words = {"a", "aa", "aaa", "aaaa"};
        due(engine(words, 0, 0), "aaa", 1, 0);
        due(engine(words, 0, 0), "aaaaa", 1, 1, 0);
        due(engine(words, 1, 0, 0, 0), "aaaa", 2, 0);
        due(engine(words, 1, 0, 0, 0), "aaaaa", 2, 1);
        due(engine(words, 0, 1, 0, 0), "aaaa", 1, 1);
        due(engine(words, 1, 1, 0, 0), "aaaaa", 3, 0);
        due(engine(words, 2, 0, 1, 0, 0, 0), "aaaaa", 3, 0);
    }

    /** "as long as two that are neighbours are a and b of a merge": down to one, and not b and a. */
    private static void asLongAsThereAreSome() {
        String[] words = {"a", "b", "ab", "ba", "abab"};
        due(engine(words, 0, 1, 2, 2), "abab", 4);
        due(engine(words, 0, 1, 2, 2), "ababab", 4, 2);
        due(engine(words, 0, 1), "ba", 1, 0);
        due(engine(words, 0, 1), "a", 0);
        due(engine(words, 2, 2), "abab", 0, 1, 0, 1);
        due(engine(words), "abab", 0, 1, 0, 1);
        due(engine(words, 1, 0), "abab", 0, 3, 1);
    }

    /** Of 12 merges the last is used too. */
    private static void twelveMerges() {
        String[] words = {"a", "b", "c", "d", "ab", "cd", "dc", "abcd"};
        long[] merges = new long[24];
        for (int i = 0; i < 10; i++) {
            merges[2 * i] = 2;
            merges[2 * i + 1] = 3;
        }
        merges[20] = 0;
        merges[21] = 1;
        merges[22] = 4;
        merges[23] = 5;
        due(engine(words, merges), "abcd", 7);
        due(engine(words, Arrays.copyOf(merges, 22)), "abcd", 4, 5);
    }

    /** An OCTET that is no TOKEN is TOKEN 0 for merges too. */
    private static void mergesOfTokenZero() {
        due(engine(new String[] {"a", "b", "ab", "aab"}, 0, 1, 0, 2), "zb", 2);
        due(engine(new String[] {"a", "b", "ab", "aab"}, 0, 1, 0, 2), "yzb", 3);
    }

    /** "NONE without a MODEL", and the TEXT is not empty then. */
    private static void none() {
        Seen.changesNothing("encode()", Stage.NEW, -3, TextEngine::encode);
        Seen.changesNothing("encode()", Stage.FAULTY, -3, TextEngine::encode);
        TextEngine x = new TextEngine();
        x.text(97, 8);
        Check.due("encode()", x.encode(), -3);
        Check.due("text() behind NONE", x.text(97, 1), 9);
    }

    private static void onlyTextAndTokens() {
        for (Stage stage : new Stage[] {Stage.LOADED, Stage.RUNNING, Stage.LAST}) {
            Seen.changesOnly("encode()", stage, stage == Stage.LOADED ? 0 : 2, TextEngine::encode,
                Seen.Part.TEXT, Seen.Part.TOKENS);
        }
        Seen.changesNothing("encode()", Stage.LOADED, 0, TextEngine::encode);
    }
}
