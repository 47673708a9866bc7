/** Promise 9, text: each sentence with its edges. */
public final class Promise09Test {
    public static void main(String[] args) {
        lowestOctets();
        refused();
        fullAtEachSize();
        refusedBeforeFull();
        fullChangesNothing();
        onlyTheText();
        withoutAModel();
        Check.end();
    }

    /** 16 TOKENS, each with one OCTET: the first is of no text here, and the edges 0 and 255 are there. */
    private static TextEngine engine() {
        String[] words = Spec.letters(16);
        words[0] = "??";
        words[14] = "\u0000";
        words[15] = "\u00ff";
        return Spec.loaded(Spec.sound(new int[] {8, 2, 1, 1, 8, 4}, new int[] {Spec.FOURS}, words, new long[0]));
    }

    /** "The n (1..8) lowest OCTETS of w come to the TEXT: how many it has." */
    private static void lowestOctets() {
        int[] tokens = {1, 14, 15, 2, 3, 13, 0, 15};
        for (int n = 1; n <= 8; n++) {
            TextEngine x = engine();
            Check.due("text(w, " + n + ")", x.text(0xFF7A6E6463FF0062L, n), n);
            Check.due("text('c', 1) behind it", x.text('c', 1), n + 1);
            Check.due("encode()", x.encode(), n + 1);
            for (int k = 0; k < n; k++) {
                Check.due("token(" + k + ") of " + n, x.token(k), tokens[k]);
            }
            Check.due("token(" + n + ")", x.token(n), 2);
        }
    }

    /** "REFUSED if n is not 1..8". */
    private static void refused() {
        for (int n : new int[] {0, 9, -1, -8, 24, Integer.MIN_VALUE, Integer.MAX_VALUE}) {
            Seen.refusedEverywhere("text(97, " + n + ")", -1, x -> x.text(97, n));
        }
    }

    private static TextEngine withOctets(int size) {
        TextEngine x = engine();
        for (int at = 0; at < size; at += 8) {
            x.text(0x6262626262626262L, Math.min(8, size - at));
        }
        return x;
    }

    /** "FULL if it would have more than 24." */
    private static void fullAtEachSize() {
        for (int n = 1; n <= 8; n++) {
            TextEngine x = withOctets(24 - n);
            Check.due("text(-1, " + n + ") with as many left", x.text(-1, n), 24);
            Check.due("text(-1, 1) with none left", x.text(-1, 1), -2);
            Check.due("encode() of 24", x.encode(), 24);
            for (int k = 0; k < 24; k++) {
                Check.due("token(" + k + ")", x.token(k), k < 24 - n ? 1 : 15);
            }
            x = withOctets(25 - n);
            Check.due("text(-1, " + n + ") with one less left", x.text(-1, n), -2);
            Check.due("encode() behind FULL", x.encode(), 25 - n);
            Check.due("the last is not new", x.token(24 - n), 1);
            Check.due("text(-1, " + n + ") behind encode()", x.text(-1, n), n);
        }
    }

    private static void refusedBeforeFull() {
        TextEngine x = withOctets(24);
        Check.due("text(0, 0) with none left", x.text(0, 0), -1);
        Check.due("text(0, 9) with none left", x.text(0, 9), -1);
        Check.due("text(0, 8) with none left", x.text(0, 8), -2);
    }

    private static void fullChangesNothing() {
        for (int n = 1; n <= 8; n++) {
            int many = n;
            Seen.changesNothing("text(97, " + n + ")", Stage.CROWDED, -2, x -> x.text(97, many));
        }
    }

    private static void onlyTheText() {
        for (Stage stage : new Stage[] {Stage.NEW, Stage.FAULTY, Stage.LOADED, Stage.RUNNING, Stage.LAST}) {
            int had = stage == Stage.NEW || stage == Stage.LOADED ? 0 : 2;
            Seen.changesOnly("text(97, 8)", stage, had + 8, x -> x.text(97, 8), Seen.Part.TEXT);
        }
    }

    /** It needs no MODEL, and its room is the same. */
    private static void withoutAModel() {
        TextEngine x = new TextEngine();
        for (int size = 1; size <= 24; size++) {
            Check.due("text(0, 1)", x.text(0, 1), size);
        }
        Check.due("text(0, 1) with none left", x.text(0, 1), -2);
        Check.due("encode()", x.encode(), -3);
        Check.due("text(0, 1) behind NONE", x.text(0, 1), -2);
        Check.due("reset()", x.reset(), 0);
        Check.due("text(0, 8) behind reset()", x.text(0, 8), 8);
    }
}
