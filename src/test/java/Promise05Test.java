import java.nio.charset.StandardCharsets;
import java.util.ArrayList;
import java.util.Arrays;
import java.util.List;

/**
 * Promise 5, load, with what the Terms say of LOADING: each sentence with its edges. Those of tokens and
 * merges, of SHAPES and of WEIGHTS are in FaultTest.
 */
public final class Promise05Test {
    private static final int SHORT = 1, MAGIC = 2, AGE = 3, LONG = 4, TYPE = 5, DEEP = 6, TWICE = 7;
    private static final int MISSING = 8, VALUE = 9, SHAPE = 10, PLACE = 11, WEIGHT = 12;

    public static void main(String[] args) {
        shortAtEachLength();
        leastNumberOfOneThing();
        orderOfTheOctets();
        mostOfEachCount();
        stringsOfSixteen();
        deepest();
        sides();
        alignments();
        offsets();
        neighbours();
        missingInTheLast();
        leastAndMostValues();
        faultLeavesTheModel();
        soundResets();
        soundAgain();
        Check.end();
    }

    private static void due(String what, byte[] octets, int fault) {
        Check.due(what + ": OCTETS fit", octets.length <= 1400 ? 1 : 0, 1);
        Check.due(what + ": load()", Spec.engine(octets).load(), fault);
    }

    private static void due(String what, Spec s, int fault) {
        due(what, s.build(), fault);
    }

    /** A small sound FILE, so that there is room for more. */
    private static Spec small() {
        return Spec.sound(new int[] {8, 2, 1, 1, 8, 4}, new int[] {Spec.FOURS},
            new String[] {"a", "b", "ab", "c"}, new long[] {0, 1});
    }

    /** Where the number, STRING or magic begins that each OCTET up to the DATA belongs to. */
    private static final class Items {
        private final byte[] octets;
        private final List<Integer> starts = new ArrayList<>();

        Items(byte[] octets) {
            this.octets = octets;
            item(4);
            item(4);
            int tensors = item(1);
            int pairs = item(1);
            for (int i = 0; i < pairs; i++) {
                string();
                value(item(1));
            }
            for (int i = 0; i < tensors; i++) {
                string();
                for (int sides = item(1); sides > 0; sides--) {
                    item(1);
                }
                item(1);
                item(2);
            }
        }

        private int item(int n) {
            int start = starts.size();
            for (int i = 0; i < n; i++) {
                starts.add(start);
            }
            return octets[start] & 255;
        }

        private void string() {
            item(1 + (octets[starts.size()] & 255));
        }

        private void value(int type) {
            if (type == Spec.NUMBER) {
                item(4);
            } else if (type == Spec.REAL) {
                item(2);
            } else if (type == Spec.TEXT) {
                string();
            } else {
                int inner = item(1);
                for (int n = item(1); n > 0; n--) {
                    value(inner);
                }
            }
        }
    }

    /** "1 SHORT: something reaches beyond the FILE (a STRING when its OCTETS would)"; DATA do: 11. */
    private static void shortAtEachLength() {
        Spec s = small().set("more", Spec.ARRAY, Spec.array(Spec.ARRAY, Spec.array(Spec.ARRAY,
            Spec.array(Spec.REAL, Spec.real(1), Spec.real(2)), Spec.texts("x", "", "yz"))));
        s.set("text", Spec.TEXT, Spec.string("0123456789ABCDEF"));
        s.tensors.add(new Spec.Tensor("one", 1, 1, Spec.HALVES));
        byte[] octets = s.build();
        List<Integer> starts = new Items(octets).starts;
        Check.holds("the walk ends where the zeros begin",
            starts.size() <= s.dataAt && starts.size() > s.dataAt - 8);
        for (int n = 0; n < octets.length; n++) {
            TextEngine x = Spec.engine(Arrays.copyOf(octets, n));
            boolean inside = n < starts.size();
            Check.due("load() of the first " + n, x.load(), inside ? SHORT : PLACE);
            Check.due("place() in the first " + n, x.place(), inside ? starts.get(n) : -1);
        }
        due("all of it", octets, 0);
        due("all of it and one more", Arrays.copyOf(octets, octets.length + 1), 0);
    }

    private static byte[] octets(int... all) {
        byte[] row = new byte[all.length];
        for (int i = 0; i < all.length; i++) {
            row[i] = (byte) all[i];
        }
        return row;
    }

    private static byte[] behindHead(int tensors, int pairs, int... more) {
        int[] head = {71, 71, 85, 70, 3, 0, 0, 0, tensors, pairs};
        int[] all = Arrays.copyOf(head, head.length + more.length);
        System.arraycopy(more, 0, all, head.length, more.length);
        return octets(all);
    }

    /** "where one thing has several, the least number": SHORT before what else is wrong with it. */
    private static void leastNumberOfOneThing() {
        due("magic, wrong and SHORT", octets(1, 2, 3), SHORT);
        due("magic, wrong", octets(1, 2, 3, 4), MAGIC);
        due("VERSION, wrong and SHORT", octets(71, 71, 85, 70, 9, 9, 9), SHORT);
        due("VERSION, wrong", octets(71, 71, 85, 70, 9, 9, 9, 9), AGE);
        for (int n : new int[] {17, 18, 128, 255}) {
            byte[] key = Arrays.copyOf(behindHead(0, 1, n), 11 + n);
            due("KEY of " + n, key, LONG);
            due("KEY of " + n + " that lacks one", Arrays.copyOf(key, 10 + n), SHORT);
            byte[] name = Arrays.copyOf(behindHead(1, 0, n), 11 + n);
            due("NAME of " + n, name, LONG);
            due("NAME of " + n + " that lacks one", Arrays.copyOf(name, 10 + n), SHORT);
            byte[] text = Arrays.copyOf(behindHead(0, 1, 1, 65, 2, n), 14 + n);
            due("TEXT of " + n, text, LONG);
            due("TEXT of " + n + " that lacks one", Arrays.copyOf(text, 13 + n), SHORT);
        }
        due("empty KEY at the end", behindHead(0, 1, 0), LONG);
        due("empty NAME at the end", behindHead(1, 0, 0), LONG);
        due("two empty KEYS", behindHead(0, 2, 1, 65, 2, 0, 0, 0), LONG);
        due("TYPE 4 behind the second ARRAY", behindHead(0, 1, 1, 65, 3, 3, 1, 3, 1, 4, 25), TYPE);
    }

    /** "the FAULT is what is found first: in the order of the OCTETS", whatever its number. */
    private static void orderOfTheOctets() {
        due("MAGIC before AGE", octets(71, 71, 85, 71, 9, 0, 0, 0, 25, 25), MAGIC);
        due("AGE before LONG", octets(71, 71, 85, 70, 9, 0, 0, 0, 25, 25), AGE);
        due("AGE before SHORT", octets(71, 71, 85, 70, 9, 0, 0, 0), AGE);
        due("LONG before SHORT", octets(71, 71, 85, 70, 3, 0, 0, 0, 25), LONG);
        due("TYPE before LONG", behindHead(0, 2, 1, 65, 4, 0, 17), TYPE);
        due("LONG before TYPE", behindHead(0, 2, 1, 65, 2, 0, 0, 9), LONG);
        due("DEEP before LONG", behindHead(0, 1, 1, 65, 3, 3, 1, 3, 1, 3, 25), DEEP);
        due("DEEP before SHORT", behindHead(0, 1, 1, 65, 3, 3, 1, 3, 1, 3), DEEP);
        due("LONG before DEEP", behindHead(0, 1, 1, 65, 3, 3, 25, 3, 1, 3, 1), LONG);
        due("TWICE before TYPE", behindHead(0, 2, 1, 65, 2, 0, 1, 65, 4), TWICE);
        due("TWICE before SHORT", behindHead(0, 2, 1, 65, 2, 0, 1, 65), TWICE);
        due("TYPE before TWICE", behindHead(0, 3, 1, 65, 2, 0, 1, 66, 5, 1, 65, 2, 0), TYPE);
        due("TWICE of NAMES before LONG", behindHead(2, 0, 1, 65, 1, 8, 0, 0, 0, 1, 65, 3), TWICE);
        due("LONG before TWICE of NAMES", behindHead(2, 0, 1, 65, 3, 8, 0, 0, 0, 1, 65, 3), LONG);
        due("PAIRS before INFOS", behindHead(1, 1, 1, 65, 4, 0), TYPE);
        due("ROWS before PACKING", behindHead(1, 0, 1, 65, 2, 8, 17, 3), LONG);
        due("COLUMNS before ROWS", behindHead(1, 0, 1, 65, 2, 17, 0), LONG);
        due("PACKING before its COLUMNS", behindHead(1, 0, 1, 65, 2, 7, 8, 3), TYPE);
        due("ROWS before COLUMNS that are no multiple", behindHead(1, 0, 1, 65, 2, 7, 0, 1), LONG);
        due("COLUMNS that are no multiple before SHORT", behindHead(1, 0, 1, 65, 1, 7, 1), LONG);
        due("SHORT before MISSING", behindHead(1, 0), SHORT);
    }

    /** "u1 TENSORS (24 at most); u1 PAIRS (24 at most)", "COUNT 24 at most": 24 are sound, 25 LONG. */
    private static void mostOfEachCount() {
        Spec s = small();
        for (int i = s.pairs.size(); i < 24; i++) {
            s.set("p" + i, Spec.TEXT, Spec.string(""));
        }
        s.align = 1;
        s.pairs.remove(s.pair("p23"));
        s.set("align", 1);
        for (int i = s.tensors.size(); i < 24; i++) {
            s.tensors.add(new Spec.Tensor("t" + i, 1, 1, Spec.HALVES));
        }
        due("24 PAIRS and TENSORS", s, 0);
        Spec other = small();
        while (other.pairs.size() < 24) {
            other.set("p" + other.pairs.size(), Spec.TEXT, Spec.string(""));
        }
        due("24 PAIRS without align", other, 0);
        other.pair("dim").key = "Dim";
        due("24 PAIRS without dim", other, MISSING);
        TextEngine x = Spec.loaded(s);
        Check.due("24 PAIRS: fact(9)", x.fact(9), 24);
        Check.due("24 TENSORS: fact(10)", x.fact(10), 24);
        s.set("p24", Spec.TEXT, Spec.string(""));
        due("25 PAIRS", s, LONG);
        s.pairs.remove(s.pair("p24"));
        s.tensors.add(new Spec.Tensor("t25", 1, 1, Spec.HALVES));
        due("25 TENSORS", s, LONG);
        for (int n : new int[] {0, 1, 24, 25}) {
            byte[][] numbers = new byte[n][];
            Arrays.fill(numbers, Spec.number(-1));
            byte[] array = Spec.array(Spec.NUMBER, numbers);
            due("an ARRAY of " + n, small().set("more", Spec.ARRAY, array), n > 24 ? LONG : 0);
            due("an ARRAY of " + n + " in an ARRAY", small().set("more", Spec.ARRAY,
                Spec.array(Spec.ARRAY, array)), n > 24 ? LONG : 0);
            due("an ARRAY of " + n + " in two", small().set("more", Spec.ARRAY,
                Spec.array(Spec.ARRAY, Spec.array(Spec.ARRAY, array))), n > 24 ? LONG : 0);
        }
        due("no PAIRS, no TENSORS", behindHead(0, 0), MISSING);
    }

    /** "A STRING: u1, and so many OCTETS (16 at most)", "a KEY or NAME that is empty". */
    private static void stringsOfSixteen() {
        String sixteen = "0123456789ABCDEF";
        due("KEY of 16", small().set(sixteen, 1), 0);
        due("KEY of 17", small().set(sixteen + "G", 1), LONG);
        due("KEY of 1", small().set("\u0000", 1), 0);
        due("empty KEY", small().set("", 1), LONG);
        due("TEXT of 16", small().set("t", Spec.TEXT, Spec.string(sixteen)), 0);
        due("TEXT of 17", small().set("t", Spec.TEXT, Spec.string(sixteen + "G")), LONG);
        due("empty TEXT", small().set("t", Spec.TEXT, Spec.string("")), 0);
        for (String name : new String[] {sixteen, sixteen + "G", "\u00ff", ""}) {
            Spec s = small();
            s.tensors.add(new Spec.Tensor(name, 1, 1, Spec.HALVES));
            due("NAME of " + name.length(), s, name.isEmpty() || name.length() > 16 ? LONG : 0);
        }
        due("KEYS that differ in the 16th", small().set(sixteen, 1).set("0123456789ABCDEE", 1), 0);
        Spec same = small().set(sixteen, 1).set("0123456789ABCDEE", 1);
        same.pair("0123456789ABCDEE").key = sixteen;
        due("KEYS of 16 that are the same", same, TWICE);
        Spec dims = small().set("dim2", 8);
        dims.pair("dim2").key = "dim";
        due("dim twice, as it should be", dims, TWICE);
        Spec norms = small();
        norms.tensors.add(new Spec.Tensor("norm", 8, 1, Spec.FOURS));
        due("norm twice, as it should be", norms, TWICE);
    }

    /** "an ARRAY in an ARRAY in an ARRAY is the deepest one", and "(An ARRAY with COUNT 0 is of any TYPE.)" */
    private static void deepest() {
        for (int type = 0; type <= 4; type++) {
            int fault = type == 4 ? TYPE : 0;
            due("ARRAY of none of TYPE " + type, small().set("x", 3, new byte[] {(byte) type, 0}), fault);
            due("that in an ARRAY", small().set("x", 3, new byte[] {3, 1, (byte) type, 0}), fault);
            int third = type == 3 ? DEEP : fault;
            due("that in two", small().set("x", 3, new byte[] {3, 1, 3, 1, (byte) type, 0}), third);
            due("no TOKENS of TYPE " + type, small().set("tokens", 3, new byte[] {(byte) type, 0}),
                type == 4 ? TYPE : VALUE);
            due("no merges of TYPE " + type, small().set("merges", 3, new byte[] {(byte) type, 0}), fault);
            due("a merge of none of TYPE " + type,
                small().set("merges", 3, new byte[] {3, 1, (byte) type, 0}), type == 4 ? TYPE : VALUE);
        }
        due("the second in two others", small().set("x", 3, new byte[] {3, 1, 3, 2, 0, 0, 3, 0}), DEEP);
        due("an ARRAY of ARRAYS behind that", small().set("x", 3, new byte[] {3, 2, 3, 1, 0, 0, 3, 0}), 0);
    }

    private static Spec withTensor(int columns, int rows, int packing) {
        Spec s = small();
        s.tensors.add(new Spec.Tensor("more", columns, rows, packing));
        return s;
    }

    /** "u1 (1 or 2), as many u1 (1..16 each)", "COLUMNS is a multiple of 8" for FOURS and EIGHTS. */
    private static void sides() {
        for (int n : new int[] {0, 1, 7, 8, 9, 15, 16, 17}) {
            boolean within = n >= 1 && n <= 16;
            due(n + " COLUMNS of HALVES", withTensor(n, 1, Spec.HALVES), within ? 0 : LONG);
            due(n + " ROWS of HALVES", withTensor(1, n, Spec.HALVES), within ? 0 : LONG);
            due(n + " ROWS of FOURS", withTensor(8, n, Spec.FOURS), within ? 0 : LONG);
            due(n + " ROWS of EIGHTS", withTensor(16, n, Spec.EIGHTS), within ? 0 : LONG);
            boolean multiple = within && n % 8 == 0;
            due(n + " COLUMNS of FOURS", withTensor(n, 2, Spec.FOURS), multiple ? 0 : LONG);
            due(n + " COLUMNS of EIGHTS", withTensor(n, 1, Spec.EIGHTS), multiple ? 0 : LONG);
        }
        due("the greatest of HALVES", withTensor(16, 16, Spec.HALVES), 0);
        for (int count = 0; count < 5; count++) {
            Spec s = withTensor(8, 1, Spec.HALVES);
            s.tensor("more").sides = count;
            due(count + " sides", s, count == 1 || count == 2 ? 0 : LONG);
        }
        for (int packing : new int[] {3, 4, 255}) {
            Spec s = withTensor(8, 1, Spec.HALVES);
            s.tensor("more").packing = packing;
            due("PACKING " + packing, s, TYPE);
        }
    }

    /** "zeros (they are not looked at) up to the next place that is a multiple of ALIGN". */
    private static void alignments() {
        boolean atOnce = false;
        for (int align = 1; align <= 64; align++) {
            Spec s = small().set("align", align);
            s.align = align;
            s.pad = 255;
            s.tensor("embed").setHalf(0, Spec.half(0.5));
            int size = s.build().length;
            if (size > 1400) {
                continue;
            }
            int infosEnd = new Items(s.build()).starts.size();
            atOnce |= infosEnd % align == 0 && align > 1;
            TextEngine x = Spec.engine(s.build());
            Check.due("load() with align " + align, x.load(), 0);
            Check.due("fact(11) with align " + align, x.fact(11), align);
            Check.due("weight with align " + align, x.weight(0, 0, 0), -8 * 32768);
        }
        Check.holds("for some there are no zeros", atOnce);
        for (int more = 0; more < 8; more++) {
            Spec s = small().set("pad", Spec.TEXT, Spec.string("12345678".substring(0, more)));
            s.tensor("embed").setHalf(0, Spec.half(1));
            Check.due("weight, " + more + " OCTETS on", Spec.loaded(s).weight(0, 0, 0), -8 * 65536);
        }
        due("align 0", small().set("align", 0), VALUE);
        due("align 65", small().set("align", 65), VALUE);
        due("align 2^31", small().set("align", 0x80000000L), VALUE);
        due("align of another TYPE", small().set("align", Spec.REAL, Spec.real(Spec.half(8))), MISSING);
    }

    /** "11 PLACE: an OFFSET is no multiple of ALIGN, DATA of a TENSOR (needed or not) reach beyond". */
    private static void offsets() {
        for (String name : new String[] {"embed", "d0", "more"}) {
            for (int add = 0; add <= 8; add++) {
                Spec s = withTensor(8, 1, Spec.FOURS);
                // Behind all others, so that nothing is in common.
                s.tensor(name).offset = s.build().length - s.dataAt + 8 & -8;
                s.tensor(name).offset += add;
                due(name + " at an OFFSET that is " + add + " on", s, add % 8 == 0 ? 0 : PLACE);
            }
        }
        Spec s = withTensor(8, 1, Spec.HALVES);
        byte[] octets = s.build();
        int last = s.tensor("more").offset;
        due("DATA up to the end", octets, 0);
        due("DATA that lack one", Arrays.copyOf(octets, octets.length - 1), PLACE);
        Spec further = withTensor(8, 1, Spec.HALVES);
        octets = further.build();
        int at = further.tensor("more").infoAt + 8;
        for (int offset : new int[] {last + 8, 0x8000, 0xFFF8, 0xFFFF}) {
            octets[at] = (byte) offset;
            octets[at + 1] = (byte) (offset >> 8);
            due("OFFSET " + offset, octets, PLACE);
        }
        octets[at] = (byte) last;
        octets[at + 1] = (byte) (last >> 8);
        due("its own OFFSET", octets, 0);
    }

    /** "or have an OCTET in common with those of another one": the last with the first, either way round. */
    private static void neighbours() {
        String[][] pairs = {{"norm", "a0"}, {"a0", "norm"}, {"more", "f0"}, {"f0", "more"}, {"embed", "more"},
            {"more", "embed"}, {"embed", "norm"}, {"norm", "embed"}};
        for (String[] two : pairs) {
            Spec sizes = withTensor(8, 1, Spec.FOURS);
            int size = sizes.tensor(two[0]).data.length;
            for (int from = 0; from <= size + 1; from++) {
                Spec s = withTensor(8, 1, Spec.FOURS).set("align", 1);
                s.align = 1;
                s.tensor(two[0]).offset = 0;
                s.tensor(two[1]).offset = from;
                due(two[0] + " at 0 and " + two[1] + " at " + from, s, from < size ? PLACE : 0);
            }
        }
        Spec same = withTensor(8, 1, Spec.FOURS);
        same.tensor("more").offset = 0;
        same.tensor("norm").offset = 0;
        due("two TENSORS with the same DATA", same, PLACE);
    }

    /** "8 MISSING: a KEY that is needed is not there with its TYPE (of ARRAYS also the TYPES of all ..)". */
    private static void missingInTheLast() {
        byte[][] merges = new byte[24][];
        Arrays.fill(merges, Spec.array(Spec.NUMBER, Spec.number(0), Spec.number(1)));
        due("24 merges", small().set("merges", 3, Spec.array(3, merges)), VALUE);
        merges[23] = Spec.array(Spec.REAL, Spec.real(0), Spec.real(1));
        due("24 merges, the last of REALS", small().set("merges", 3, Spec.array(3, merges)), MISSING);
        merges[23] = Spec.array(Spec.REAL);
        due("24 merges, the last empty", small().set("merges", 3, Spec.array(3, merges)), VALUE);
        due("a merge of ARRAYS", small().set("merges", 3, new byte[] {3, 1, 3, 1, 0, 0}), MISSING);
        due("17 TOKENS of REAL", small().set("tokens", 3, new byte[] {1, 1, 0, 0}), MISSING);
        for (String key : new String[] {"dim", "heads", "kv", "layers", "ffn", "ctx", "stop", "align"}) {
            due(key + " as REAL", small().set(key, Spec.REAL, Spec.real(Spec.half(8))), MISSING);
        }
    }

    private static void number(String key, long... sound) {
        for (long v = 0; v < 70; v++) {
            boolean is = false;
            for (long one : sound) {
                is |= one == v;
            }
            int got = Spec.engine(small().set(key, v).build()).load();
            // With another number that is as said the SHAPES or PLACES no longer fit.
            Check.holds(key + " " + v + " is as said or not", is == (got != VALUE));
        }
        for (long v : new long[] {0x100, 0x10000, 0x1000000, 0x80000000L, 0xFFFFFFFFL}) {
            due(key + " " + (v + sound[0]), small().set(key, v + sound[0]), VALUE);
        }
    }

    /** "9 VALUE: one is not as said": each number from 0 to 69, and high OCTETS that count. */
    private static void leastAndMostValues() {
        number("dim", 8, 16);
        number("heads", 1, 2, 4);
        number("kv", 1, 2);
        number("layers", 1, 2);
        number("ffn", 8, 16);
        number("ctx", 2, 3, 4, 5, 6, 7, 8);
        number("stop", 0, 1, 2, 3);
        long[] aligns = new long[64];
        for (int i = 0; i < 64; i++) {
            aligns[i] = i + 1;
        }
        number("align", aligns);
        for (int heads : new int[] {1, 2, 4}) {
            for (int kv = 0; kv <= 8; kv++) {
                int got = Spec.engine(small().set("heads", heads).set("kv", kv).build()).load();
                Check.holds("kv " + kv + " of " + heads + " heads",
                    (got != VALUE) == (kv >= 1 && heads % kv == 0));
            }
        }
        for (int bits = 0; bits < 0x10000; bits += bits % 0x400 < 2 || bits % 0x400 > 0x3FD ? 1 : 0x17) {
            double v = (bits & 0x7C00) == 0x7C00 ? -1 : Spec.valueOf(bits);
            if (near(v, 1.0 / 1024) || near(v, 1) || near(v, 16) || v <= 0 && bits % 5 == 0) {
                due("eps " + v, small().set("eps", 1, Spec.real(bits)), v >= 1.0 / 1024 && v <= 1 ? 0 : VALUE);
                due("base " + v, small().set("base", 1, Spec.real(bits)), v >= 1 && v <= 16 ? 0 : VALUE);
            }
        }
    }

    private static boolean near(double v, double edge) {
        return v > edge * 0.95 && v < edge * 1.05;
    }

    /** For each FAULT from 2 on the OCTETS of the Stage's FILE to flip: place, x, place, x .. */
    private static int[][] flips() {
        Spec s = Stage.spec();
        String all = new String(s.build(), StandardCharsets.ISO_8859_1);
        int dim = all.indexOf("dim");
        int eps = all.indexOf("eps");
        int inMerges = all.indexOf("merges") + 9;
        int norm = s.tensor("norm").infoAt;
        return new int[][] {
            {3, 1},
            {7, 1},
            {8, 128},
            {dim + 3, 7},
            {inMerges, 3, inMerges + 2, 3},
            {eps, 'e' ^ 'c', eps + 1, 'p' ^ 't', eps + 2, 's' ^ 'x'},
            {dim, 1},
            {dim + 4, 1},
            {norm + 1, 1},
            {norm + 9, 1},
            {s.dataAt + 1, 0x7C},
        };
    }

    /** "with one the MODEL stays as it was": of all that can be seen only the place changes. */
    private static void faultLeavesTheModel() {
        int[][] flips = flips();
        for (Stage stage : new Stage[] {Stage.LOADED, Stage.RUNNING, Stage.LAST, Stage.CROWDED}) {
            for (int fault = MAGIC; fault <= WEIGHT; fault++) {
                int[] now = flips[fault - MAGIC];
                Seen.changesOnly("load() with FAULT " + fault, stage, fault, x -> flipAndLoad(x, now),
                    Seen.Part.PLACE);
            }
            Seen.changesOnly("load() with nothing", stage, SHORT, Promise05Test::loadNothing,
                Seen.Part.PLACE, Seen.Part.FILE);
        }
    }

    private static int flipAndLoad(TextEngine x, int[] flips) {
        for (int i = 0; i < flips.length; i += 2) {
            x.flip(flips[i], flips[i + 1]);
        }
        int fault = x.load();
        for (int i = 0; i < flips.length; i += 2) {
            x.flip(flips[i], flips[i + 1]);
        }
        return fault;
    }

    private static int loadNothing(TextEngine x) {
        x.clear();
        return x.load();
    }

    /** "A FILE without FAULT is the MODEL from then on, and all that follows is RESET". */
    private static void soundResets() {
        for (Stage stage : new Stage[] {Stage.LOADED, Stage.RUNNING, Stage.LAST, Stage.CROWDED}) {
            TextEngine x = stage.make();
            Check.due("load()", x.load(), 0);
            Check.due("token(0) behind load()", x.token(0), -1);
            Check.due("said(0) behind load()", x.said(0), -1);
            Check.due("logit(0) behind load()", x.logit(0), -3);
            Check.due("draw() behind load()", x.draw(0, 1, 1), -3);
            Check.due("say(1) behind load()", x.say(1), -3);
            Check.due("encode() behind load()", x.encode(), 0);
            Check.due("reset() behind load()", x.reset(), 0);
            Check.due("step(0) behind load()", x.step(0), 0);
            TextEngine fresh = Stage.LOADED.make();
            fresh.step(0);
            for (int i = 0; i < 6; i++) {
                Check.due("logit(" + i % 4 + ") behind load()", x.logit(i % 4), fresh.logit(i % 4));
                Check.due("step(1) behind load()", x.step(1), fresh.step(1));
            }
        }
        Seen.changesOnly("load()", Stage.LOADED, 0, TextEngine::load);
        Seen.changesOnly("load()", Stage.RUNNING, 0, TextEngine::load, Seen.Part.TOKENS, Seen.Part.SAID,
            Seen.Part.LOGITS, Seen.Part.SEED, Seen.Part.TEXT, Seen.Part.STEPS);
    }

    private static void soundAgain() {
        TextEngine x = new TextEngine();
        Spec.feed(x, small().build());
        for (int i = 0; i < 5; i++) {
            Check.due("load() again", x.load(), 0);
            Check.due("fact(6)", x.fact(6), 4);
            Check.due("step(3)", x.step(3), 0);
        }
        x.clear();
        Spec.feed(x, Spec.still(2).build());
        Check.due("load() of another", x.load(), 0);
        Check.due("fact(6) of another", x.fact(6), 2);
        Check.due("step(2) of another", x.step(2), -1);
        Check.due("letter(2, 0) of another", x.letter(2, 0), -1);
        Check.due("step(1) of another", x.step(1), 0);
    }
}
