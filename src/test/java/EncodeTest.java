/** Promises 9, 10 and 11: text, encode, token. */
public final class EncodeTest {
    public static void main(String[] args) {
        textRoom();
        plain();
        mergeOrder();
        longTexts();
        refusals();
        textAndModel();
        Check.end();
    }

    private static TextEngine engine(String[] words, long... merges) {
        return Spec.loaded(Spec.sound(new int[] {8, 2, 1, 1, 8, 4}, new int[] {Spec.FOURS}, words, merges));
    }

    private static void say(TextEngine x, String text) {
        for (int i = 0; i < text.length(); i++) {
            Check.due("text", x.text(text.charAt(i), 1), i + 1);
        }
    }

    private static void due(TextEngine x, String text, int... tokens) {
        say(x, text);
        Check.due("encode() of " + text, x.encode(), tokens.length);
        for (int k = 0; k < tokens.length; k++) {
            Check.due("token(" + k + ") of " + text, x.token(k), tokens[k]);
        }
        Check.due("token behind the last of " + text, x.token(tokens.length), -1);
    }

    private static void textRoom() {
        TextEngine x = new TextEngine();
        for (int n : new int[] {0, 9, -1, Integer.MIN_VALUE, Integer.MAX_VALUE}) {
            Check.due("text(1, " + n + ")", x.text(1, n), -1);
        }
        Check.due("text of 8", x.text(-1, 8), 8);
        Check.due("text of 8", x.text(-1, 8), 16);
        Check.due("text of 5", x.text(-1, 5), 21);
        Check.due("text of 4", x.text(-1, 4), -2);
        Check.due("text of 9 where 3 are left", x.text(-1, 9), -1);
        Check.due("text of 3", x.text(-1, 3), 24);
        Check.due("text of 1", x.text(-1, 1), -2);
        Check.due("reset()", x.reset(), 0);
        Check.due("text behind reset()", x.text(-1, 8), 8);
    }

    private static void plain() {
        TextEngine x = engine(new String[] {"no", "a", "b", "\u00ff", "\u0000"});
        Check.due("text of many", x.text(0x7A_00_FF_62_61L, 5), 5);
        Check.due("encode()", x.encode(), 5);
        int[] due = {1, 2, 3, 4, 0};
        for (int k = 0; k < due.length; k++) {
            Check.due("token(" + k + ")", x.token(k), due[k]);
        }
        due(x, "");
        due(x, "no", 0, 0);
        due(x, "b", 2);
    }

    private static void mergeOrder() {
        String[] words = {"a", "b", "ab", "ba", "aba", "aa", "aaa", "abab"};
        due(engine(words, 0, 1), "abab", 2, 2);
        due(engine(words, 0, 1, 2, 2), "abab", 7);
        due(engine(words, 2, 2, 0, 1), "ababab", 7, 2);
        due(engine(words, 1, 0, 0, 1), "abab", 0, 3, 1);
        due(engine(words, 0, 1, 1, 0), "abab", 2, 2);
        due(engine(words, 0, 1, 1, 0), "baba", 1, 2, 0);
        due(engine(words, 0, 1, 2, 0), "aba", 4);
        due(engine(words, 0, 3), "aba", 0, 1, 0);
        due(engine(words, 0, 3, 1, 0), "aba", 4);
        due(engine(words, 0, 0), "aaaaa", 5, 5, 0);
        due(engine(words, 0, 0, 5, 0), "aaaaa", 5, 6);
        due(engine(words, 5, 0, 0, 0), "aaaaa", 6, 5);
        due(engine(words, 0, 0, 0, 5), "aaaaa", 5, 5, 0);
        due(engine(words, 0, 5, 0, 0), "aaaaaa", 5, 5, 5);
        due(engine(words), "ab", 0, 1);
        due(engine(new String[] {"ab", "a", "abab"}, 0, 0), "xyaz", 2, 1, 0);
    }

    private static void longTexts() {
        TextEngine x = engine(new String[] {"a", "aa", "aaaa"}, 0, 0, 1, 1);
        due(x, "aaaaaaaaaaaaaaaaaaaaaaaa", 2, 2, 2, 2, 2, 2);
        due(x, "aaaaaaaaaaaaaaaaaaaaaaa", 2, 2, 2, 2, 2, 1, 0);
        TextEngine none = engine(new String[] {"a", "b"});
        due(none, "abababababababababababab", 0, 1, 0, 1, 0, 1, 0, 1, 0, 1, 0, 1, 0, 1, 0, 1, 0, 1, 0, 1, 0, 1,
            0, 1);
        Check.due("token(23)", none.token(23), 1);
    }

    private static void refusals() {
        TextEngine x = engine(new String[] {"a", "b"});
        Check.due("token(0) before encode()", x.token(0), -1);
        due(x, "ab", 0, 1);
        for (int k : new int[] {-1, 2, 24, Integer.MAX_VALUE, Integer.MIN_VALUE}) {
            Check.due("token(" + k + ")", x.token(k), -1);
        }
        Check.due("encode() of nothing", x.encode(), 0);
        Check.due("token(0) of nothing", x.token(0), -1);
    }

    private static void textAndModel() {
        TextEngine x = new TextEngine();
        x.text('a', 1);
        Check.due("encode() without a MODEL", x.encode(), -3);
        Check.due("the TEXT is still there", x.text('a', 1), 2);
        Spec.feed(x, Spec.plain().build());
        Check.due("load()", x.load(), 0);
        Check.due("load() empties the TEXT", x.text('b', 1), 1);
        x.flip(0, 1);
        Check.due("load() with a FAULT", x.load(), 2);
        Check.due("a FAULT leaves the TEXT", x.text('b', 1), 2);
        Check.due("encode()", x.encode(), 2);
        Check.due("load() with a FAULT again", x.load(), 2);
        Check.due("a FAULT leaves the TOKENS", x.token(1), 1);
        Check.due("encode() empties the TEXT", x.text('b', 1), 1);
        Check.due("text() leaves the TOKENS", x.token(1), 1);
        Check.due("reset()", x.reset(), 0);
        Check.due("reset() forgets the TOKENS", x.token(0), -1);
        Check.due("reset() empties the TEXT", x.encode(), 0);
        x.flip(0, 1);
        x.text('b', 1);
        x.encode();
        Check.due("load() when mended", x.load(), 0);
        Check.due("load() forgets the TOKENS", x.token(0), -1);
    }
}
