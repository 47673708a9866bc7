import java.util.ArrayList;
import java.util.List;
import java.util.Random;

/** Random FILES and runs of calls: each answer is compared with the Oracle's. */
public final class RandomRunTest {
    private static final int RUNS = 400;
    private static final int CALLS_MOST = 500;

    private final Random random;
    private final TextEngine x = new TextEngine();
    private final Oracle o = new Oracle();
    private final String name;
    private int calls = 0;

    private RandomRunTest(int run) {
        random = new Random(run);
        name = "run " + run + ", call ";
    }

    public static void main(String[] args) {
        for (int run = 0; run < RUNS; run++) {
            new RandomRunTest(run).run();
        }
        Check.end();
    }

    private void due(String call, long got, long want) {
        calls++;
        Check.due(name + calls + ": " + call, got, want);
    }

    private void run() {
        byte[] octets = randomFile();
        feed(octets);
        due("load()", x.load(), o.load());
        while (calls < CALLS_MOST) {
            randomCall();
        }
    }

    private void feed(byte[] octets) {
        for (int at = 0; at < octets.length; at += 8) {
            int n = Math.min(8, octets.length - at);
            long w = random.nextLong();
            for (int i = 0; i < n; i++) {
                w = w & ~(255L << 8 * i) | (octets[at + i] & 255L) << 8 * i;
            }
            due("file", x.file(w, n), o.file(w, n));
        }
    }

    private byte[] randomFile() {
        while (true) {
            byte[] octets = randomSpec(random).build();
            if (octets.length <= 1400) {
                return octets;
            }
        }
    }

    static Spec randomSpec(Random random) {
        int dim = random.nextInt(3) == 0 ? 16 : 8;
        int heads = 1 << random.nextInt(3);
        int kv = Math.max(1, heads >> random.nextInt(3));
        int[] sizes = {dim, heads, kv, 1 + random.nextInt(2), random.nextInt(3) == 0 ? 16 : 8,
            2 + random.nextInt(7)};
        int[] packings = new int[24];
        for (int i = 0; i < packings.length; i++) {
            packings[i] = random.nextInt(4) == 0 ? random.nextInt(3) : Spec.FOURS;
        }
        List<String> words = randomWords(random);
        Spec s = Spec.sound(sizes, packings, words.toArray(new String[0]), randomMerges(random, words));
        s.fill(random, new double[] {0.2, 0.7, 1.3, 1.9, 200}[random.nextInt(5)]);
        s.set("stop", random.nextInt(words.size()));
        s.set("eps", Spec.REAL, Spec.real(Spec.near((1 + random.nextInt(1024)) / 1024.0)));
        s.set("base", Spec.REAL, Spec.real(0x3C00 + random.nextInt(0x1001)));
        if (random.nextBoolean()) {
            s.align = 1 + random.nextInt(random.nextBoolean() ? 9 : 64);
            s.set("align", s.align);
        }
        if (random.nextBoolean()) {
            s.set("more", Spec.ARRAY, Spec.array(Spec.ARRAY, Spec.array(Spec.ARRAY,
                Spec.array(Spec.REAL, Spec.real(random.nextInt(65536))), Spec.texts("x", ""))));
            s.tensors.add(random.nextInt(s.tensors.size()),
                new Spec.Tensor("more", 1 + random.nextInt(7), 1 + random.nextInt(3), Spec.HALVES));
        }
        java.util.Collections.shuffle(s.pairs, random);
        java.util.Collections.shuffle(s.tensors, random);
        s.pad = random.nextInt(256);
        return s;
    }

    private static List<String> randomWords(Random random) {
        List<String> words = new ArrayList<>();
        int count = 2 + random.nextInt(random.nextBoolean() ? 3 : 15);
        while (words.size() < count) {
            String word = "";
            if (words.size() > 1 && random.nextInt(3) > 0) {
                word = words.get(random.nextInt(words.size())) + words.get(random.nextInt(words.size()));
            } else {
                word += "abcd\u00ff\u0000".charAt(random.nextInt(6));
                word += random.nextInt(3) == 0 ? "b" : "";
            }
            if (word.length() <= 4 && !words.contains(word)) {
                words.add(word);
            }
            count -= random.nextInt(60) == 0 && count > 2 ? 1 : 0;
            if (words.size() >= 2 && random.nextInt(40) == 0) {
                break;
            }
        }
        return words;
    }

    private static long[] randomMerges(Random random, List<String> words) {
        List<long[]> all = new ArrayList<>();
        for (int a = 0; a < words.size(); a++) {
            for (int b = 0; b < words.size(); b++) {
                if (words.contains(words.get(a) + words.get(b)) && random.nextInt(5) > 0) {
                    all.add(new long[] {a, b});
                }
            }
        }
        java.util.Collections.shuffle(all, random);
        int n = Math.min(12, all.size());
        long[] flat = new long[2 * n];
        for (int i = 0; i < n; i++) {
            flat[2 * i] = all.get(i)[0];
            flat[2 * i + 1] = all.get(i)[1];
        }
        return flat;
    }

    private int upTo(int most) {
        return random.nextInt(20) == 0 ? random.nextInt(400) - 100 : random.nextInt(most + 1);
    }

    private void randomCall() {
        switch (random.nextInt(17)) {
            case 0: case 1: case 2: {
                int t = upTo(o.fact(6) > 0 ? o.fact(6) - 1 : 1);
                due("step(" + t + ")", x.step(t), o.step(t));
                break;
            }
            case 3: case 4: {
                int k = upTo(o.fact(6) > 0 ? o.fact(6) : 1);
                due("logit(" + k + ")", x.logit(k), o.logit(k));
                break;
            }
            case 5: case 6: {
                int t = upTo(400);
                int k = random.nextInt(20) == 0 ? upTo(17) : 1 + random.nextInt(16);
                int p = random.nextInt(20) == 0 ? upTo(101) : 1 + random.nextInt(100);
                due("draw(" + t + ", " + k + ", " + p + ")", x.draw(t, k, p), o.draw(t, k, p));
                break;
            }
            case 7: {
                int n = random.nextInt(4) == 0 ? upTo(17) : 1 + random.nextInt(3);
                due("say(" + n + ")", x.say(n), o.say(n));
                break;
            }
            case 8: {
                int k = upTo(random.nextBoolean() ? 4 : 33);
                due("said(" + k + ")", x.said(k), o.said(k));
                break;
            }
            case 9: {
                long w = 0;
                for (int i = 0; i < 8; i++) {
                    w = w << 8 | "aaabbbccdd\u00ff\u0000e".charAt(random.nextInt(13));
                }
                int n = upTo(8);
                due("text(" + w + ", " + n + ")", x.text(w, n), o.text(w, n));
                break;
            }
            case 10:
                due("encode()", x.encode(), o.encode());
                break;
            case 11: {
                int k = upTo(8);
                due("token(" + k + ")", x.token(k), o.token(k));
                break;
            }
            case 12: {
                int t = upTo(16);
                int i = upTo(4);
                due("letter(" + t + ", " + i + ")", x.letter(t, i), o.letter(t, i));
                break;
            }
            case 13: {
                int t = upTo(24);
                int r = upTo(8);
                int c = upTo(8);
                due("weight(" + t + ", " + r + ", " + c + ")", x.weight(t, r, c), o.weight(t, r, c));
                break;
            }
            case 14: {
                int w = upTo(12);
                due("fact(" + w + ")", x.fact(w), o.fact(w));
                break;
            }
            case 15:
                seldom();
                break;
            default: {
                int k = random.nextInt(3) == 0 ? random.nextInt(1400) : random.nextInt(300);
                int bits = random.nextInt(3) == 0 ? 1 << random.nextInt(8) : random.nextInt(258) - 1;
                due("flip(" + k + ", " + bits + ")", x.flip(k, bits), o.flip(k, bits));
                due("load()", x.load(), o.load());
                due("place()", x.place(), o.place());
                if (random.nextInt(4) > 0) {
                    due("flip(" + k + ", " + bits + ")", x.flip(k, bits), o.flip(k, bits));
                }
            }
        }
    }

    private void seldom() {
        switch (random.nextInt(8)) {
            case 0:
                due("reset()", x.reset(), o.reset());
                break;
            case 1:
                due("load()", x.load(), o.load());
                break;
            case 2: {
                long v = random.nextInt(4) == 0 ? 0 : random.nextLong();
                x.seed(v);
                o.seed(v);
                calls++;
                break;
            }
            case 3:
                due("place()", x.place(), o.place());
                break;
            case 4: {
                int n = upTo(9);
                long w = random.nextLong();
                due("file(" + w + ", " + n + ")", x.file(w, n), o.file(w, n));
                break;
            }
            case 5:
                if (random.nextInt(4) == 0) {
                    due("clear()", x.clear(), o.clear());
                    due("load()", x.load(), o.load());
                    due("place()", x.place(), o.place());
                    if (calls < CALLS_MOST - 1400 / 8 - 2) {
                        feed(randomFile());
                        due("load()", x.load(), o.load());
                    }
                }
                break;
            default:
                break;
        }
    }
}
