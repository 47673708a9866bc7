import java.io.ByteArrayOutputStream;
import java.nio.charset.StandardCharsets;
import java.util.ArrayList;
import java.util.Arrays;
import java.util.List;
import java.util.Random;

/** What a FILE is to hold: tests change a sound one and build the OCTETS from it. */
final class Spec {
    static final int NUMBER = 0, REAL = 1, TEXT = 2, ARRAY = 3;
    static final int HALVES = 0, FOURS = 1, EIGHTS = 2;

    static final class Pair {
        String key;
        int type;
        byte[] value;

        Pair(String key, int type, byte[] value) {
            this.key = key;
            this.type = type;
            this.value = value;
        }
    }

    static final class Tensor {
        String name;
        int sides;
        int columns;
        int rows;
        int packing;
        byte[] data;
        int offset = -1;
        int infoAt;

        Tensor(String name, int columns, int rows, int packing) {
            this.name = name;
            this.sides = rows == 1 ? 1 : 2;
            this.columns = columns;
            this.rows = rows;
            this.packing = packing;
            this.data = new byte[sizeOf(columns, rows, packing)];
        }

        void fillHalves(double... values) {
            for (int i = 0; i < values.length; i++) {
                setHalf(2 * i, half(values[i]));
            }
        }

        void setHalf(int at, int bits) {
            data[at] = (byte) bits;
            data[at + 1] = (byte) (bits >> 8);
        }
    }

    final List<Pair> pairs = new ArrayList<>();
    final List<Tensor> tensors = new ArrayList<>();
    int magic = 0x46554747;
    int version = 3;
    int align = 8;
    int pad = 0;
    int dataAt;
    int infosAt;

    static int sizeOf(int columns, int rows, int packing) {
        return packing == HALVES ? rows * columns * 2 : rows * columns / 8 * (packing == FOURS ? 6 : 10);
    }

    /** The HALF that is exactly this. */
    static int half(double value) {
        for (int bits = 0; bits < 0x7C00; bits++) {
            if (valueOf(bits) == Math.abs(value)) {
                return value < 0 ? bits | 0x8000 : bits;
            }
        }
        throw new IllegalArgumentException("no HALF: " + value);
    }

    static double valueOf(int bits) {
        int e = bits >> 10 & 31;
        int f = bits & 1023;
        double size = e == 0 ? f * Math.pow(2, -24) : (1024 + f) * Math.pow(2, e - 25);
        return (bits & 0x8000) == 0 ? size : -size;
    }

    static byte[] number(long v) {
        return new byte[] {(byte) v, (byte) (v >> 8), (byte) (v >> 16), (byte) (v >> 24)};
    }

    static byte[] real(int bits) {
        return new byte[] {(byte) bits, (byte) (bits >> 8)};
    }

    static byte[] string(String s) {
        byte[] octets = s.getBytes(StandardCharsets.ISO_8859_1);
        byte[] all = new byte[octets.length + 1];
        all[0] = (byte) octets.length;
        System.arraycopy(octets, 0, all, 1, octets.length);
        return all;
    }

    static byte[] array(int type, byte[]... values) {
        ByteArrayOutputStream out = new ByteArrayOutputStream();
        out.write(type);
        out.write(values.length);
        for (byte[] value : values) {
            out.writeBytes(value);
        }
        return out.toByteArray();
    }

    static byte[] texts(String... words) {
        byte[][] values = new byte[words.length][];
        for (int i = 0; i < words.length; i++) {
            values[i] = string(words[i]);
        }
        return array(TEXT, values);
    }

    static byte[] merges(long... ab) {
        byte[][] values = new byte[ab.length / 2][];
        for (int i = 0; i < values.length; i++) {
            values[i] = array(NUMBER, number(ab[2 * i]), number(ab[2 * i + 1]));
        }
        return array(ARRAY, values);
    }

    Spec set(String key, int type, byte[] value) {
        Pair old = pair(key);
        if (old == null) {
            pairs.add(new Pair(key, type, value));
        } else {
            old.type = type;
            old.value = value;
        }
        return this;
    }

    Spec set(String key, long v) {
        return set(key, NUMBER, number(v));
    }

    Pair pair(String key) {
        for (Pair p : pairs) {
            if (p.key.equals(key)) {
                return p;
            }
        }
        return null;
    }

    Tensor tensor(String name) {
        for (Tensor t : tensors) {
            if (t.name.equals(name)) {
                return t;
            }
        }
        return null;
    }

    /** A sound FILE without weights yet: all HALVES and SCALES are 0. */
    static Spec sound(int[] sizes, int[] packings, String[] words, long[] merges) {
        Spec s = new Spec();
        int dim = sizes[0];
        int heads = sizes[1];
        int kv = sizes[2];
        int layers = sizes[3];
        int ffn = sizes[4];
        s.set("dim", dim).set("heads", heads).set("kv", kv).set("layers", layers).set("ffn", ffn);
        s.set("ctx", sizes[5]);
        s.set("eps", REAL, real(half(0.5))).set("base", REAL, real(half(2)));
        s.set("tokens", ARRAY, texts(words)).set("merges", ARRAY, merges(merges)).set("stop", 0);
        int p = 0;
        s.tensors.add(new Tensor("embed", dim, words.length, packings[p++ % packings.length]));
        s.tensors.add(new Tensor("norm", dim, 1, packings[p++ % packings.length]));
        s.tensors.add(new Tensor("out", dim, words.length, packings[p++ % packings.length]));
        int[] rows = {1, dim, dim / heads * kv, dim / heads * kv, dim, 1, ffn, ffn, dim};
        for (int l = 0; l < layers; l++) {
            for (int i = 0; i < rows.length; i++) {
                String name = "aqkvofgud".substring(i, i + 1) + l;
                int columns = i == 8 ? ffn : dim;
                s.tensors.add(new Tensor(name, columns, rows[i], packings[p++ % packings.length]));
            }
        }
        return s;
    }

    /** The plain one that most tests begin with: 8 wide, 1 layer, 4 TOKENS, everything HALVES. */
    static Spec plain() {
        return sound(new int[] {8, 2, 1, 1, 8, 4}, new int[] {HALVES},
            new String[] {"a", "b", "ab", "c"}, new long[] {0, 1});
    }

    static String[] letters(int n) {
        String[] words = new String[n];
        for (int i = 0; i < n; i++) {
            words[i] = String.valueOf((char) ('a' + i));
        }
        return words;
    }

    /** So many one-letter TOKENS; embed, norm and out are HALVES, and nothing happens in the layer. */
    static Spec still(int tokens) {
        int[] packings = new int[12];
        Arrays.fill(packings, FOURS);
        Arrays.fill(packings, 0, 3, HALVES);
        return sound(new int[] {8, 2, 1, 1, 8, 4}, packings, letters(tokens), new long[0]);
    }

    /** LOGITS behind a STEP with TOKEN 0 are twice the given ones. */
    static Spec withHalfLogits(double... halves) {
        Spec s = still(halves.length);
        s.tensor("embed").fillHalves(2);
        s.tensor("norm").fillHalves(1);
        for (int i = 0; i < halves.length; i++) {
            s.tensor("out").setHalf(16 * i, half(halves[i]));
        }
        return s;
    }

    /** An object behind a STEP, with LOGITS that are twice the given ones. */
    static TextEngine stepped(double... halves) {
        TextEngine x = loaded(withHalfLogits(halves));
        Check.due("step(0)", x.step(0), 0);
        for (int i = 0; i < halves.length; i++) {
            Check.due("logit(" + i + ")", x.logit(i), (long) (halves[i] * 2048));
        }
        return x;
    }

    /** Behind a STEP with TOKEN t (of at most 8) the greatest LOGIT is that of follower[t]. */
    static Spec chain(int stop, int... follower) {
        Spec s = still(follower.length);
        s.set("stop", stop);
        for (int t = 0; t < follower.length; t++) {
            s.tensor("embed").setHalf(2 * (8 * t + t), half(2));
            s.tensor("out").setHalf(2 * (8 * follower[t] + t), half(1));
        }
        s.tensor("norm").fillHalves(1, 1, 1, 1, 1, 1, 1, 1);
        return s;
    }

    static long nextSeed(long seed) {
        long s = seed ^ seed << 13;
        s = s ^ s >>> 7;
        return s ^ s << 17;
    }

    /** The SEED that becomes this one. */
    static long seedBefore(long seed) {
        long s = undo(seed, 17, true);
        s = undo(s, 7, false);
        return undo(s, 13, true);
    }

    private static long undo(long mixed, int by, boolean left) {
        long s = mixed;
        for (int i = 0; i < 64; i += by) {
            s = mixed ^ (left ? s << by : s >>> by);
        }
        return s;
    }

    /** Weights of about the given size in all TENSORS. */
    Spec fill(Random random, double size) {
        for (Tensor t : tensors) {
            int step = t.packing == HALVES ? 2 : t.packing == FOURS ? 6 : 10;
            random.nextBytes(t.data);
            for (int at = 0; at + 1 < t.data.length; at += step) {
                double v = (random.nextInt(2001) - 1000) / 1000.0 * size;
                double n = t.packing == HALVES ? 1 : t.packing == FOURS ? 8 : 128;
                double most = t.packing == HALVES ? 1.9 : 1;
                t.setHalf(at, near(Math.max(-most, Math.min(most, v / n))));
            }
        }
        return this;
    }

    /** A HALF near a value (below 2): bits of it that are lost are simply cut. */
    static int near(double v) {
        double size = Math.abs(v);
        int e = 15;
        while (e > 1 && size < 1) {
            size *= 2;
            e--;
        }
        int bits = size < 1 ? (int) (size * 1024) : e << 10 | (int) ((Math.min(size, 1.999) - 1) * 1024);
        return v < 0 ? bits | 0x8000 : bits;
    }

    byte[] build() {
        ByteArrayOutputStream out = new ByteArrayOutputStream();
        out.writeBytes(number(magic));
        out.writeBytes(number(version));
        out.write(tensors.size());
        out.write(pairs.size());
        for (Pair p : pairs) {
            out.writeBytes(string(p.key));
            out.write(p.type);
            out.writeBytes(p.value);
        }
        infosAt = out.size();
        int end = placeData();
        for (Tensor t : tensors) {
            t.infoAt = out.size();
            out.writeBytes(string(t.name));
            out.write(t.sides);
            out.write(t.columns);
            if (t.sides == 2) {
                out.write(t.rows);
            }
            out.write(t.packing);
            out.write(t.offset);
            out.write(t.offset >> 8);
        }
        while (out.size() % align != 0) {
            out.write(pad);
        }
        dataAt = out.size();
        byte[] data = new byte[end];
        for (Tensor t : tensors) {
            System.arraycopy(t.data, 0, data, t.offset, t.data.length);
        }
        out.writeBytes(data);
        return out.toByteArray();
    }

    /** TENSORS without an OFFSET come one behind the other, behind those that have one. */
    private int placeData() {
        int end = 0;
        for (Tensor t : tensors) {
            end = t.offset < 0 ? end : Math.max(end, t.offset + t.data.length);
        }
        for (Tensor t : tensors) {
            if (t.offset < 0) {
                t.offset = (end + align - 1) / align * align;
                end = t.offset + t.data.length;
            }
        }
        return end;
    }

    static TextEngine feed(TextEngine x, byte[] octets) {
        for (int at = 0; at < octets.length; at += 8) {
            int n = Math.min(8, octets.length - at);
            long w = 0;
            for (int i = 0; i < n; i++) {
                w |= (octets[at + i] & 255L) << (8 * i);
            }
            x.file(w, n);
        }
        return x;
    }

    /** A new object with this FILE, which is not loaded yet. */
    static TextEngine engine(byte[] octets) {
        return feed(new TextEngine(), octets);
    }

    static TextEngine loaded(Spec s) {
        TextEngine x = engine(s.build());
        Check.due("load() of a sound FILE", x.load(), 0);
        return x;
    }
}
