import java.util.Arrays;

/** Promises 5 and 6: load and place, each FAULT with its edges. */
public final class FaultTest {
    private static final byte[] EARLIER = earlier();

    private static byte[] earlier() {
        String[] words = Spec.letters(16);
        words[15] = "ab";
        long[] merges = new long[24];
        for (int i = 0; i < 12; i++) {
            merges[2 * i + 1] = 1;
        }
        Spec s = Spec.sound(new int[] {8, 4, 4, 2, 8, 8}, new int[] {Spec.FOURS}, words, merges);
        s.align = 1;
        return s.set("align", 1).set("stop", 15).build();
    }

    public static void main(String[] args) {
        soundOnes();
        head();
        strings();
        typesAndDepth();
        twice();
        infos();
        missing();
        numbers();
        reals();
        tokens();
        merges();
        shapes();
        places();
        weights();
        order();
        Check.end();
    }

    private static void due(String what, byte[] octets, int fault, int place) {
        TextEngine x = Spec.engine(octets);
        Check.due(what + ": load()", x.load(), fault);
        Check.due(what + ": place()", x.place(), place);
        Check.due(what + ": is there a MODEL", x.fact(0) == -3 ? 0 : 1, fault == 0 ? 1 : 0);
        dueBehindOthers(what, octets, fault, place);
    }

    /** Nothing of FILES that were sound before may help this one, nor may it spoil their MODEL. */
    private static void dueBehindOthers(String what, byte[] octets, int fault, int place) {
        TextEngine x = Spec.engine(EARLIER);
        Check.due(what + ": load() of another", x.load(), 0);
        Check.due(what + ": load() of another again", x.load(), 0);
        x.step(1);
        x.clear();
        Spec.feed(x, octets);
        Check.due(what + ": load() behind another", x.load(), fault);
        Check.due(what + ": place() behind another", x.place(), place);
        Check.due(what + ": logit behind another", x.logit(1), fault == 0 ? -3 : 0);
        Check.due(what + ": STEPS behind another", x.reset(), fault == 0 ? 0 : 1);
        if (fault != 0) {
            int[] facts = {8, 4, 4, 2, 8, 8, 16, 12, 15, 12, 21, 1};
            for (int i = 0; i < facts.length; i++) {
                Check.due(what + ": fact(" + i + ") behind another", x.fact(i), facts[i]);
            }
        }
    }

    private static void due(String what, Spec s, int fault, int place) {
        due(what, s.build(), fault, place);
    }

    private static byte[] octets(int... all) {
        byte[] row = new byte[all.length];
        for (int i = 0; i < all.length; i++) {
            row[i] = (byte) all[i];
        }
        return row;
    }

    /** A head with so many TENSORS and PAIRS, and what comes behind it from place 10 on. */
    private static byte[] behindHead(int tensors, int pairs, int... more) {
        int[] head = {71, 71, 85, 70, 3, 0, 0, 0, tensors, pairs};
        int[] all = Arrays.copyOf(head, head.length + more.length);
        System.arraycopy(more, 0, all, head.length, more.length);
        return octets(all);
    }

    private static void soundOnes() {
        due("plain", Spec.plain(), 0, -1);
        Spec padded = Spec.plain();
        padded.pad = 255;
        due("zeros that are none", padded, 0, -1);
        TextEngine x = Spec.engine(Spec.plain().build());
        x.flip(0, 1);
        Check.due("load() with other magic", x.load(), 2);
        Check.due("place()", x.place(), 0);
        x.flip(0, 1);
        Check.due("load() when mended", x.load(), 0);
        Check.due("place() of the latest load()", x.place(), -1);
    }

    private static void head() {
        due("nothing", octets(), 1, 0);
        due("half a magic", octets(71, 71, 85), 1, 0);
        due("half a magic, wrong", octets(0, 1), 1, 0);
        due("magic 0", octets(72, 71, 85, 70), 2, 0);
        due("magic 1", octets(71, 72, 85, 70), 2, 0);
        due("magic 2", octets(71, 71, 84, 70, 4), 2, 0);
        due("magic 3", octets(71, 71, 85, 198, 3, 0, 0, 0, 0, 0), 2, 0);
        due("half a VERSION", octets(71, 71, 85, 70, 4, 0, 0), 1, 4);
        due("VERSION 2", octets(71, 71, 85, 70, 2, 0, 0, 0), 3, 4);
        due("VERSION 3 + 2^24", octets(71, 71, 85, 70, 3, 0, 0, 1), 3, 4);
        due("VERSION -1", octets(71, 71, 85, 70, 255, 255, 255, 255), 3, 4);
        due("no TENSORS", octets(71, 71, 85, 70, 3, 0, 0, 0), 1, 8);
        due("25 TENSORS", octets(71, 71, 85, 70, 3, 0, 0, 0, 25), 4, 8);
        due("24 TENSORS, no PAIRS", octets(71, 71, 85, 70, 3, 0, 0, 0, 24), 1, 9);
        due("25 PAIRS", behindHead(24, 25), 4, 9);
        due("255 PAIRS", behindHead(0, 255), 4, 9);
        due("24 PAIRS", behindHead(0, 24), 1, 10);
        due("none of each", behindHead(0, 0), 8, -1);
    }

    private static void strings() {
        due("KEY above 16", behindHead(0, 1, 17, 1, 1, 1, 1, 1, 1, 1, 1, 1, 1, 1, 1, 1, 1, 1, 1, 1), 4, 10);
        due("KEY above 16 that is SHORT", behindHead(0, 1, 17, 1, 1, 1, 1, 1), 1, 10);
        due("KEY of 16", behindHead(0, 1, 16, 1, 1, 1, 1, 1, 1, 1, 1, 1, 1, 1, 1, 1, 1, 1, 1), 1, 27);
        due("KEY that lacks one", behindHead(0, 1, 3, 65, 66), 1, 10);
        due("empty KEY", behindHead(0, 1, 0), 4, 10);
        due("no TYPE", behindHead(0, 1, 1, 65), 1, 12);
        due("TEXT empty", behindHead(0, 1, 1, 65, 2, 0), 8, -1);
        due("TEXT not there", behindHead(0, 1, 1, 65, 2), 1, 13);
        due("TEXT that lacks one", behindHead(0, 1, 1, 65, 2, 2, 9), 1, 13);
        due("TEXT above 16", behindHead(0, 1, 1, 65, 2, 17, 1, 1, 1, 1, 1, 1, 1, 1, 1, 1, 1, 1, 1, 1, 1, 1, 1),
            4, 13);
        due("TEXT of 16", behindHead(0, 1, 1, 65, 2, 16, 1, 1, 1, 1, 1, 1, 1, 1, 1, 1, 1, 1, 1, 1, 1, 1), 8, -1);
        due("TEXT above 16 in an ARRAY",
            behindHead(0, 1, 1, 65, 3, 2, 2, 0, 17, 1, 1, 1, 1, 1, 1, 1, 1, 1, 1, 1, 1, 1, 1, 1, 1, 1), 4, 16);
        due("NAME empty", behindHead(1, 0, 0, 1, 8, 0, 0, 0), 4, 10);
        due("NAME not there", behindHead(1, 0), 1, 10);
    }

    private static void typesAndDepth() {
        due("TYPE 4", behindHead(0, 1, 1, 65, 4), 5, 12);
        due("TYPE 255", behindHead(0, 1, 1, 65, 255), 5, 12);
        due("NUMBER that is SHORT", behindHead(0, 1, 1, 65, 0, 1, 1, 1), 1, 13);
        due("NUMBER", behindHead(0, 1, 1, 65, 0, 1, 1, 1, 255), 8, -1);
        due("REAL that is SHORT", behindHead(0, 1, 1, 65, 1, 0), 1, 13);
        due("REAL that is none", behindHead(0, 1, 1, 65, 1, 255, 255), 8, -1);
        due("ARRAY without TYPE", behindHead(0, 1, 1, 65, 3), 1, 13);
        due("ARRAY of TYPE 4", behindHead(0, 1, 1, 65, 3, 4), 5, 13);
        due("ARRAY without COUNT", behindHead(0, 1, 1, 65, 3, 0), 1, 14);
        due("ARRAY of 25", behindHead(0, 1, 1, 65, 3, 0, 25), 4, 14);
        due("ARRAY of 24 that is SHORT", behindHead(0, 1, 1, 65, 3, 0, 24, 1, 0, 0, 0, 1), 1, 19);
        due("ARRAY of none", behindHead(0, 1, 1, 65, 3, 3, 0), 8, -1);
        due("three deep", behindHead(0, 1, 1, 65, 3, 3, 1, 3, 1, 0, 0), 8, -1);
        due("three deep with REALS", behindHead(0, 1, 1, 65, 3, 3, 1, 3, 1, 1, 2, 1, 1, 2), 1, 21);
        due("four deep", behindHead(0, 1, 1, 65, 3, 3, 1, 3, 1, 3, 0), 6, 17);
        due("four deep and SHORT", behindHead(0, 1, 1, 65, 3, 3, 1, 3, 1, 3), 6, 17);
        due("second of an ARRAY four deep", behindHead(0, 1, 1, 65, 3, 3, 2, 3, 1, 2, 0, 3, 1, 3, 1), 6, 21);
        due("TYPE 4 three deep", behindHead(0, 1, 1, 65, 3, 3, 1, 3, 1, 4), 5, 17);
        due("COUNT 25 three deep", behindHead(0, 1, 1, 65, 3, 3, 1, 3, 1, 2, 25), 4, 18);
    }

    private static void twice() {
        due("KEY twice", behindHead(0, 2, 1, 65, 2, 0, 1, 65), 7, 14);
        due("KEY twice, bad TYPE behind it", behindHead(0, 2, 1, 65, 2, 0, 1, 65, 9), 7, 14);
        due("KEY that begins like one", behindHead(0, 2, 1, 65, 2, 0, 2, 65, 66, 9), 5, 17);
        due("KEY that one begins like", behindHead(0, 2, 2, 65, 66, 2, 0, 1, 65, 9), 5, 17);
        due("third KEY like the first", behindHead(0, 3, 1, 65, 2, 0, 1, 66, 2, 0, 1, 65), 7, 18);
        due("NAME twice", behindHead(2, 0, 1, 65, 1, 8, 0, 0, 0, 1, 65, 7), 7, 17);
        due("NAME like a KEY", behindHead(1, 1, 1, 65, 2, 0, 1, 65, 1, 8, 0, 0, 0), 8, -1);
        Spec s = Spec.plain().set("norm", 1);
        due("a KEY norm in a sound FILE", s, 0, -1);
    }

    private static void infos() {
        due("no sides", behindHead(1, 0, 1, 65), 1, 12);
        due("0 sides", behindHead(1, 0, 1, 65, 0), 4, 12);
        due("3 sides", behindHead(1, 0, 1, 65, 3, 8, 8), 4, 12);
        due("no COLUMNS", behindHead(1, 0, 1, 65, 1), 1, 13);
        due("0 COLUMNS", behindHead(1, 0, 1, 65, 1, 0), 4, 13);
        due("17 COLUMNS", behindHead(1, 0, 1, 65, 1, 17), 4, 13);
        due("no ROWS", behindHead(1, 0, 1, 65, 2, 16), 1, 14);
        due("0 ROWS", behindHead(1, 0, 1, 65, 2, 16, 0), 4, 14);
        due("17 ROWS", behindHead(1, 0, 1, 65, 2, 16, 17), 4, 14);
        due("no PACKING", behindHead(1, 0, 1, 65, 2, 16, 16), 1, 15);
        due("PACKING 3", behindHead(1, 0, 1, 65, 2, 16, 16, 3), 5, 15);
        due("PACKING 3 of 7 COLUMNS", behindHead(1, 0, 1, 65, 1, 7, 3), 5, 14);
        due("7 COLUMNS, PACKING not there", behindHead(1, 0, 1, 65, 1, 7), 1, 14);
        due("7 COLUMNS of FOURS", behindHead(1, 0, 1, 65, 1, 7, 1), 4, 13);
        due("12 COLUMNS of EIGHTS", behindHead(1, 0, 1, 65, 2, 12, 3, 2, 0), 4, 13);
        due("7 COLUMNS of HALVES", behindHead(1, 0, 1, 65, 1, 7, 0, 0, 0), 8, -1);
        due("16 COLUMNS of EIGHTS", behindHead(1, 0, 1, 65, 1, 16, 2, 0, 0), 8, -1);
        due("8 COLUMNS of FOURS", behindHead(1, 0, 1, 65, 1, 8, 1, 255, 255), 8, -1);
        due("no OFFSET", behindHead(1, 0, 1, 65, 1, 8, 0), 1, 15);
        due("half an OFFSET", behindHead(1, 0, 1, 65, 2, 8, 8, 0, 0), 1, 16);
        due("the second of two is bad", behindHead(2, 0, 1, 65, 1, 8, 0, 0, 0, 1, 66, 1, 8, 9), 5, 21);
    }

    private static void missing() {
        for (String key : new String[] {"dim", "heads", "kv", "layers", "ffn", "ctx", "eps", "base",
            "tokens", "merges", "stop"}) {
            Spec without = Spec.plain();
            without.pairs.remove(without.pair(key));
            due("without " + key, without, 8, -1);
            due(key + " as TEXT", Spec.plain().set(key, Spec.TEXT, Spec.string("a")), 8, -1);
            due(key + " as an ARRAY of REALS",
                Spec.plain().set(key, Spec.ARRAY, Spec.array(Spec.REAL, Spec.real(0))), 8, -1);
            Spec longer = Spec.plain();
            longer.pair(key).key = key + "s";
            due(key + "s", longer, 8, -1);
        }
        due("eps as NUMBER", Spec.plain().set("eps", 1), 8, -1);
        due("base as NUMBER", Spec.plain().set("base", 1), 8, -1);
        due("dim as REAL", Spec.plain().set("dim", Spec.REAL, Spec.real(Spec.half(8))), 8, -1);
        due("align as REAL", Spec.plain().set("align", Spec.REAL, Spec.real(Spec.half(8))), 8, -1);
        due("align as TEXT", Spec.plain().set("align", Spec.TEXT, Spec.string("8")), 8, -1);
        due("tokens as NUMBERS", Spec.plain().set("tokens", Spec.ARRAY,
            Spec.array(Spec.NUMBER, Spec.number(1), Spec.number(2))), 8, -1);
        due("merges as NUMBERS", Spec.plain().set("merges", Spec.ARRAY,
            Spec.array(Spec.NUMBER, Spec.number(0), Spec.number(1))), 8, -1);
        due("merges of TEXTS", Spec.plain().set("merges", Spec.ARRAY,
            Spec.array(Spec.ARRAY, Spec.texts("a", "b"))), 8, -1);
        due("the second merge of REALS", Spec.plain().set("merges", Spec.ARRAY, Spec.array(Spec.ARRAY,
            Spec.array(Spec.NUMBER, Spec.number(0), Spec.number(1)),
            Spec.array(Spec.REAL, Spec.real(0), Spec.real(1)))), 8, -1);
        due("MISSING before VALUE", Spec.plain().set("dim", 9).set("stop", Spec.TEXT, Spec.string("")),
            8, -1);
        due("MISSING align before VALUE", Spec.plain().set("dim", 9).set("align", Spec.TEXT,
            Spec.string("")), 8, -1);
    }

    private static void numbers() {
        for (long v : new long[] {0, 7, 9, 12, 15, 17, 24, 32, 0x100000008L >> 1, 0xFFFFFFFFL, 0x80000008L}) {
            due("dim " + v, Spec.plain().set("dim", v), 9, -1);
            due("ffn " + v, Spec.plain().set("ffn", v), 9, -1);
        }
        for (long v : new long[] {0, 3, 5, 8, 0xFFFFFFFFL, 0x01000001L}) {
            due("heads " + v, Spec.plain().set("heads", v), 9, -1);
            due("kv " + v, Spec.plain().set("kv", v), 9, -1);
        }
        due("kv 4 of 2 heads", Spec.plain().set("kv", 4), 9, -1);
        due("kv 2 of 1 head", Spec.plain().set("heads", 1).set("kv", 2), 9, -1);
        due("kv 3 of 4 heads", Spec.plain().set("heads", 4).set("kv", 3), 9, -1);
        due("kv 2 of 2 heads", Spec.plain().set("kv", 2), 10, -1);
        for (long v : new long[] {0, 3, 0xFFFFFFFFL}) {
            due("layers " + v, Spec.plain().set("layers", v), 9, -1);
        }
        due("layers 2", Spec.plain().set("layers", 2), 10, -1);
        for (long v : new long[] {0, 1, 9, 0xFFFFFFFFL}) {
            due("ctx " + v, Spec.plain().set("ctx", v), 9, -1);
        }
        due("ctx 2", Spec.plain().set("ctx", 2), 0, -1);
        due("ctx 8", Spec.plain().set("ctx", 8), 0, -1);
        for (long v : new long[] {4, 5, 0xFFFFFFFFL, 0x80000000L}) {
            due("stop " + v, Spec.plain().set("stop", v), 9, -1);
        }
        due("stop 3", Spec.plain().set("stop", 3), 0, -1);
        for (long v : new long[] {0, 65, 0xFFFFFFFFL}) {
            due("align " + v, Spec.plain().set("align", v), 9, -1);
        }
    }

    private static void reals() {
        int[] badEps = {0, 0x8000, Spec.half(1.0 / 1024) - 1, Spec.half(1) + 1, Spec.half(-0.5), 0x7C00,
            0x7FFF, 0xFC00, Spec.half(2)};
        for (int bits : badEps) {
            due("eps " + bits, Spec.plain().set("eps", Spec.REAL, Spec.real(bits)), 9, -1);
        }
        due("eps 2^-10", Spec.plain().set("eps", Spec.REAL, Spec.real(Spec.half(1.0 / 1024))), 0, -1);
        due("eps 1", Spec.plain().set("eps", Spec.REAL, Spec.real(Spec.half(1))), 0, -1);
        int[] badBase = {0, Spec.half(1) - 1, Spec.half(16) + 1, Spec.half(-2), 0x7C00, 0x7E00, 0xFC01, 0x7BFF};
        for (int bits : badBase) {
            due("base " + bits, Spec.plain().set("base", Spec.REAL, Spec.real(bits)), 9, -1);
        }
        due("base 1", Spec.plain().set("base", Spec.REAL, Spec.real(Spec.half(1))), 0, -1);
        due("base 16", Spec.plain().set("base", Spec.REAL, Spec.real(Spec.half(16))), 0, -1);
    }

    private static Spec withWords(String[] words, long... merges) {
        return Spec.sound(new int[] {8, 2, 1, 1, 8, 4}, new int[] {Spec.FOURS}, words, merges);
    }

    private static void tokens() {
        due("2 TOKENS", withWords(Spec.letters(2)), 0, -1);
        due("16 TOKENS", withWords(Spec.letters(16)), 0, -1);
        Spec one = withWords(Spec.letters(2)).set("tokens", Spec.ARRAY, Spec.texts("a"));
        due("1 TOKEN", one, 9, -1);
        Spec more = withWords(Spec.letters(16)).set("tokens", Spec.ARRAY, Spec.texts(Spec.letters(17)));
        due("17 TOKENS", more, 9, -1);
        due("no TOKENS, of TEXT", Spec.plain().set("tokens", Spec.ARRAY, Spec.array(Spec.TEXT)), 9, -1);
        due("no TOKENS, of NUMBER", Spec.plain().set("tokens", Spec.ARRAY, Spec.array(Spec.NUMBER)), 9, -1);
        due("empty TOKEN", withWords(new String[] {"a", ""}), 9, -1);
        due("TOKEN of 4", withWords(new String[] {"a", "abcd"}), 0, -1);
        due("TOKEN of 5", withWords(new String[] {"a", "abcde"}), 9, -1);
        due("TOKENS the same", withWords(new String[] {"ab", "b", "ab"}), 9, -1);
        due("TOKENS that differ in length", withWords(new String[] {"a", "a\0", "a\0\0", "\0"}), 0, -1);
        due("TOKENS of high OCTETS", withWords(new String[] {"\u00ff\u00ff\u00ff\u00ff", "\u00ff"}), 0, -1);
    }

    private static void merges() {
        String[] words = {"a", "b", "ab", "aba", "abab", "bb"};
        due("merges", withWords(words, 0, 1, 2, 0, 2, 2, 3, 1, 1, 1, 0, 1), 0, -1);
        due("no merges", withWords(words), 0, -1);
        due("no merges, of REAL", withWords(words).set("merges", Spec.ARRAY, Spec.array(Spec.REAL)), 0, -1);
        due("merge into no TOKEN", withWords(words, 0, 0), 9, -1);
        due("merge above 4 OCTETS", withWords(words, 4, 4), 9, -1);
        due("second merge into no TOKEN", withWords(words, 0, 1, 1, 0), 9, -1);
        due("merge with TOKEN 6", withWords(words, 0, 6), 9, -1);
        due("merge of TOKEN 6", withWords(words, 6, 1), 9, -1);
        due("merge of 2^31", withWords(words, 0x80000000L, 1), 9, -1);
        due("merge with 2^32 - 1", withWords(words, 0, 0xFFFFFFFFL), 9, -1);
        long[] twelve = new long[24];
        for (int i = 0; i < 12; i++) {
            twelve[2 * i + 1] = 1;
        }
        due("12 merges", withWords(words, twelve), 0, -1);
        long[] thirteen = Arrays.copyOf(twelve, 26);
        thirteen[25] = 1;
        due("13 merges", withWords(words, thirteen), 9, -1);
        for (int n : new int[] {0, 1, 3}) {
            byte[][] numbers = new byte[n][];
            for (int i = 0; i < n; i++) {
                numbers[i] = Spec.number(i % 2);
            }
            byte[] inner = Spec.array(n == 0 ? Spec.TEXT : Spec.NUMBER, numbers);
            due("a merge of " + n, withWords(words).set("merges", Spec.ARRAY, Spec.array(Spec.ARRAY, inner)),
                9, -1);
        }
    }

    private static void shapes() {
        Spec two = Spec.sound(new int[] {8, 4, 2, 2, 16, 2}, new int[] {Spec.FOURS}, Spec.letters(2), new long[0]);
        due("two layers", two, 0, -1);
        for (int i = 0; i < two.tensors.size(); i++) {
            int[][] changes = {{8, 0}, {0, 1}, {0, -1}};
            for (int[] change : changes) {
                Spec s = Spec.sound(new int[] {8, 4, 2, 2, 16, 2}, new int[] {Spec.FOURS}, Spec.letters(2),
                    new long[0]);
                Spec.Tensor old = s.tensors.get(i);
                int columns = old.columns == 16 && change[0] == 8 ? 8 : old.columns + change[0];
                int rows = old.rows + change[1];
                if (rows < 1 || rows > 16) {
                    continue;
                }
                s.tensors.set(i, new Spec.Tensor(old.name, columns, rows, Spec.FOURS));
                due(old.name + " of " + columns + ", " + rows, s, 10, -1);
            }
            Spec s = Spec.sound(new int[] {8, 4, 2, 2, 16, 2}, new int[] {Spec.FOURS}, Spec.letters(2),
                new long[0]);
            s.tensors.get(i).name = "x" + i;
            due("without TENSOR " + i, s, 10, -1);
        }
        Spec sides = Spec.plain();
        sides.tensor("norm").sides = 2;
        due("norm with ROWS 1", sides, 0, -1);
    }

    private static void places() {
        Spec beyond = Spec.plain();
        byte[] all = beyond.build();
        due("DATA that lack one", Arrays.copyOf(all, all.length - 1), 11, -1);
        due("no DATA", Arrays.copyOf(all, beyond.dataAt), 11, -1);
        Spec odd = Spec.plain();
        odd.tensor("d0").offset = 4;
        odd.tensor("d0").offset = odd.build().length - odd.dataAt + 4;
        due("OFFSET no multiple of 8", odd, 11, -1);
        Spec four = Spec.plain().set("align", 4);
        four.align = 4;
        four.tensor("embed").offset = 4;
        due("OFFSET that is a multiple of 4", four, 0, -1);
        for (int align : new int[] {1, 3, 7, 16, 64}) {
            Spec s = Spec.plain().set("align", align);
            s.align = align;
            due("align " + align, s, 0, -1);
        }
        Spec wide = Spec.plain().set("align", 16);
        wide.tensor("embed").offset = 8;
        due("OFFSET no multiple of align", wide, 11, -1);
        overlaps();
        Spec extra = Spec.plain();
        Spec.Tensor more = new Spec.Tensor("more", 3, 1, Spec.HALVES);
        more.data = new byte[0];
        extra.tensors.add(more);
        due("DATA of one that is not needed, beyond", extra, 11, -1);
    }

    private static void overlaps() {
        Spec same = Spec.plain();
        same.tensor("a0").offset = 0;
        same.tensor("f0").offset = 0;
        due("two at one OFFSET", same, 11, -1);
        Spec first = Spec.plain().set("align", 1);
        first.align = 1;
        first.tensor("a0").offset = 15;
        first.tensor("f0").offset = 0;
        due("one OCTET in common", first, 11, -1);
        Spec touching = Spec.plain().set("align", 1);
        touching.align = 1;
        touching.tensor("a0").offset = 16;
        touching.tensor("f0").offset = 0;
        due("none in common", touching, 0, -1);
        Spec inside = Spec.plain();
        inside.tensor("q0").offset = 0;
        inside.tensor("norm").offset = 32;
        due("one inside another", inside, 11, -1);
        Spec extra = Spec.plain();
        extra.tensors.add(new Spec.Tensor("more", 3, 1, Spec.HALVES));
        extra.tensors.get(extra.tensors.size() - 1).offset = 8;
        extra.tensor("q0").offset = 0;
        due("one that is not needed inside another", extra, 11, -1);
    }

    private static void weights() {
        int[] none = {0x7C00, 0xFC00, 0x7FFF, 0xFE01};
        int[] packings = {Spec.HALVES, Spec.FOURS, Spec.EIGHTS};
        for (int packing : packings) {
            for (int bits : none) {
                oneHalf(packing, bits, 12);
            }
            double most = packing == Spec.HALVES ? 16 : 1;
            oneHalf(packing, Spec.half(most), 0);
            oneHalf(packing, Spec.half(-most), 0);
            oneHalf(packing, Spec.half(most) + 1, 12);
            oneHalf(packing, Spec.half(-most) + 1, 12);
            oneHalf(packing, 0x7BFF, 12);
            oneHalf(packing, 0xFBFF, 12);
        }
        oneHalf(Spec.FOURS, Spec.half(2), 12);
        oneHalf(Spec.HALVES, Spec.half(2), 0);
    }

    /** The last HALF or SCALE of each of two TENSORS, a needed one and another, becomes the bits. */
    private static void oneHalf(int packing, int bits, int fault) {
        for (String name : new String[] {"g0", "more"}) {
            Spec s = Spec.sound(new int[] {8, 2, 1, 1, 8, 4}, new int[] {packing}, Spec.letters(2), new long[0]);
            s.tensors.add(new Spec.Tensor("more", 8, 3, packing));
            Spec.Tensor t = s.tensor(name);
            int step = packing == Spec.HALVES ? 2 : packing == Spec.FOURS ? 6 : 10;
            Arrays.fill(t.data, packing == Spec.HALVES ? 0 : (byte) 255);
            for (int at = 0; at < t.data.length; at += step) {
                t.setHalf(at, 0);
            }
            t.setHalf(t.data.length - step, bits);
            due(name + " packed " + packing + " with HALF " + bits, s, fault, -1);
        }
    }

    private static void order() {
        Spec s = Spec.plain();
        s.tensor("d0").setHalf(0, 0x7C00);
        due("12", s, 12, -1);
        s.tensor("d0").offset = 0;
        s.tensor("g0").offset = 0;
        due("11 before 12", s, 11, -1);
        s.tensors.remove(s.tensor("a0"));
        due("10 before 11", s, 10, -1);
        s.set("ctx", 1);
        due("9 before 10", s, 9, -1);
        s.pairs.remove(s.pair("stop"));
        due("8 before 9", s, 8, -1);
        s.tensor("d0").packing = 3;
        int place = 0;
        s.build();
        place = s.tensor("d0").infoAt + 6;
        due("5 before 8", s, 5, place);
        s.tensor("d0").columns = 17;
        due("what comes first", s, 4, place - 2);
    }
}
