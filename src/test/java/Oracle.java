import java.util.ArrayList;
import java.util.LinkedHashMap;
import java.util.List;
import java.util.Map;

/** The document once more, written another way: random runs are compared with it. */
final class Oracle {
    static final class Fault extends RuntimeException {
        private static final long serialVersionUID = 1L;
        final int number;
        final int place;

        Fault(int number, int place) {
            this.number = number;
            this.place = place;
        }
    }

    static final class Value {
        int type;
        long number;
        int inner;
        String text;
        List<Value> items;
    }

    static final class Tensor {
        int columns, rows, packing, offset;
        float[][] weights;
    }

    static final class Model {
        final Map<String, Value> pairs = new LinkedHashMap<>();
        final Map<String, Tensor> infos = new LinkedHashMap<>();
        int dim, heads, kv, layers, ffn, ctx, stop, align = 8;
        float eps, base;
        final List<String> tokens = new ArrayList<>();
        final List<int[]> merges = new ArrayList<>();
    }

    private final List<Integer> file = new ArrayList<>();
    private String text = "";
    private Model model;
    private long seed = 1;
    private int place = -1;
    private int cursor;
    private List<Integer> encoded = new ArrayList<>();
    private final List<Integer> sayings = new ArrayList<>();
    private int steps;
    private float[] logits;
    private final List<List<float[]>> keys = new ArrayList<>();
    private final List<List<float[]>> values = new ArrayList<>();

    int file(long w, int n) {
        if (n < 1 || n > 8) {
            return -1;
        }
        if (file.size() + n > 1400) {
            return -2;
        }
        for (int i = 0; i < n; i++, w >>= 8) {
            file.add((int) (w & 255));
        }
        return file.size();
    }

    int flip(int k, int x) {
        if (k < 0 || k >= file.size() || x < 0 || x > 255) {
            return -1;
        }
        file.set(k, file.get(k) ^ x);
        return file.get(k);
    }

    int clear() {
        int n = file.size();
        file.clear();
        return n;
    }

    int place() {
        return place;
    }

    int load() {
        try {
            Model m = new Model();
            parse(m);
            int begin = cursor;
            checkKeys(m);
            checkValues(m);
            checkShapes(m);
            while (begin % m.align != 0) {
                begin++;
            }
            checkPlaces(m, begin);
            unpack(m, begin);
            model = m;
            place = -1;
            reset();
            return 0;
        } catch (Fault f) {
            place = f.number <= 7 ? f.place : -1;
            return f.number;
        }
    }

    private long take(int n) {
        if (cursor + n > file.size()) {
            throw new Fault(1, cursor);
        }
        long v = 0;
        for (int i = n - 1; i >= 0; i--) {
            v = v * 256 + file.get(cursor + i);
        }
        cursor += n;
        return v;
    }

    private int takeUpTo(int most, int fault) {
        int at = cursor;
        int v = (int) take(1);
        if (v > most) {
            throw new Fault(fault, at);
        }
        return v;
    }

    private String takeString() {
        int at = cursor;
        int n = (int) take(1);
        if (cursor + n > file.size()) {
            throw new Fault(1, at);
        }
        if (n > 16) {
            throw new Fault(4, at);
        }
        StringBuilder s = new StringBuilder();
        for (int i = 0; i < n; i++) {
            s.append((char) take(1));
        }
        return s.toString();
    }

    private String takeName(Map<String, ?> earlier) {
        int at = cursor;
        String s = takeString();
        if (s.isEmpty()) {
            throw new Fault(4, at);
        }
        if (earlier.containsKey(s)) {
            throw new Fault(7, at);
        }
        return s;
    }

    private void parse(Model m) {
        cursor = 0;
        if (take(4) != 71 + 71 * 256 + 85 * 65536 + 70 * 16777216L) {
            throw new Fault(2, 0);
        }
        if (take(4) != 3) {
            throw new Fault(3, 4);
        }
        int tensors = takeUpTo(24, 4);
        int pairs = takeUpTo(24, 4);
        for (int i = 0; i < pairs; i++) {
            String key = takeName(m.pairs);
            m.pairs.put(key, takeValue(takeUpTo(3, 5), 0));
        }
        for (int i = 0; i < tensors; i++) {
            String name = takeName(m.infos);
            m.infos.put(name, takeInfo());
        }
    }

    private Value takeValue(int type, int arraysAround) {
        Value v = new Value();
        v.type = type;
        if (type == 0) {
            v.number = take(4);
        } else if (type == 1) {
            v.number = take(2);
        } else if (type == 2) {
            v.text = takeString();
        } else {
            int at = cursor;
            v.inner = takeUpTo(3, 5);
            if (v.inner == 3 && arraysAround == 2) {
                throw new Fault(6, at);
            }
            v.items = new ArrayList<>();
            for (int n = takeUpTo(24, 4); n > 0; n--) {
                v.items.add(takeValue(v.inner, arraysAround + 1));
            }
        }
        return v;
    }

    private int takeSide(int most) {
        int at = cursor;
        int v = takeUpTo(most, 4);
        if (v == 0) {
            throw new Fault(4, at);
        }
        return v;
    }

    private Tensor takeInfo() {
        Tensor t = new Tensor();
        boolean two = takeSide(2) == 2;
        int columnsAt = cursor;
        t.columns = takeSide(16);
        t.rows = two ? takeSide(16) : 1;
        t.packing = takeUpTo(2, 5);
        if (t.packing > 0 && t.columns != 8 && t.columns != 16) {
            throw new Fault(4, columnsAt);
        }
        t.offset = (int) take(2);
        return t;
    }

    private static void must(boolean holds, int fault) {
        if (!holds) {
            throw new Fault(fault, -1);
        }
    }

    private static boolean is(Value v, int type) {
        return v != null && v.type == type;
    }

    private static void checkKeys(Model m) {
        for (String key : List.of("dim", "heads", "kv", "layers", "ffn", "ctx", "stop")) {
            must(is(m.pairs.get(key), 0), 8);
        }
        must(is(m.pairs.get("eps"), 1) && is(m.pairs.get("base"), 1), 8);
        Value tokens = m.pairs.get("tokens");
        must(is(tokens, 3) && (tokens.items.isEmpty() || tokens.inner == 2), 8);
        Value merges = m.pairs.get("merges");
        must(is(merges, 3) && (merges.items.isEmpty() || merges.inner == 3), 8);
        for (Value v : merges.items) {
            must(v.items.isEmpty() || v.inner == 0, 8);
        }
        must(!m.pairs.containsKey("align") || is(m.pairs.get("align"), 0), 8);
    }

    private static int among(Model m, String key, int... all) {
        for (int one : all) {
            if (m.pairs.get(key).number == one) {
                return one;
            }
        }
        throw new Fault(9, -1);
    }

    private static float real(Model m, String key, double low, double high) {
        int bits = (int) m.pairs.get(key).number;
        must((bits & 0x7C00) != 0x7C00, 9);
        double v = Spec.valueOf(bits);
        must(v >= low && v <= high, 9);
        return (float) v;
    }

    private static void checkValues(Model m) {
        m.dim = among(m, "dim", 8, 16);
        m.heads = among(m, "heads", 1, 2, 4);
        m.kv = among(m, "kv", 1, 2, 4);
        must(m.heads % m.kv == 0, 9);
        m.layers = among(m, "layers", 1, 2);
        m.ffn = among(m, "ffn", 8, 16);
        m.ctx = among(m, "ctx", 2, 3, 4, 5, 6, 7, 8);
        m.eps = real(m, "eps", 1.0 / 1024, 1);
        m.base = real(m, "base", 1, 16);
        for (Value v : m.pairs.get("tokens").items) {
            must(v.text.length() >= 1 && v.text.length() <= 4 && !m.tokens.contains(v.text), 9);
            m.tokens.add(v.text);
        }
        must(m.tokens.size() >= 2 && m.tokens.size() <= 16, 9);
        for (Value v : m.pairs.get("merges").items) {
            must(v.items.size() == 2, 9);
            long a = v.items.get(0).number;
            long b = v.items.get(1).number;
            must(a < m.tokens.size() && b < m.tokens.size(), 9);
            String both = m.tokens.get((int) a) + m.tokens.get((int) b);
            must(m.tokens.contains(both), 9);
            m.merges.add(new int[] {(int) a, (int) b, m.tokens.indexOf(both)});
        }
        must(m.merges.size() <= 12, 9);
        must(m.pairs.get("stop").number < m.tokens.size(), 9);
        m.stop = (int) m.pairs.get("stop").number;
        if (m.pairs.containsKey("align")) {
            long align = m.pairs.get("align").number;
            must(align >= 1 && align <= 64, 9);
            m.align = (int) align;
        }
    }

    private static void shape(Model m, String name, int columns, int rows) {
        Tensor t = m.infos.get(name);
        must(t != null && t.columns == columns && t.rows == rows, 10);
    }

    private static void checkShapes(Model m) {
        int shared = m.dim / m.heads * m.kv;
        shape(m, "embed", m.dim, m.tokens.size());
        shape(m, "norm", m.dim, 1);
        shape(m, "out", m.dim, m.tokens.size());
        for (int l = 0; l < m.layers; l++) {
            shape(m, "a" + l, m.dim, 1);
            shape(m, "q" + l, m.dim, m.dim);
            shape(m, "k" + l, m.dim, shared);
            shape(m, "v" + l, m.dim, shared);
            shape(m, "o" + l, m.dim, m.dim);
            shape(m, "f" + l, m.dim, 1);
            shape(m, "g" + l, m.dim, m.ffn);
            shape(m, "u" + l, m.dim, m.ffn);
            shape(m, "d" + l, m.ffn, m.dim);
        }
    }

    private void checkPlaces(Model m, int begin) {
        boolean[] taken = new boolean[file.size()];
        for (Tensor t : m.infos.values()) {
            must(t.offset % m.align == 0, 11);
            int from = begin + t.offset;
            int size = Spec.sizeOf(t.columns, t.rows, t.packing);
            must(from + size <= file.size(), 11);
            for (int i = from; i < from + size; i++) {
                must(!taken[i], 11);
                taken[i] = true;
            }
        }
    }

    private float half(int at, double most) {
        int bits = file.get(at) + 256 * file.get(at + 1);
        must((bits & 0x7C00) != 0x7C00, 12);
        double v = Spec.valueOf(bits);
        must(Math.abs(v) <= most, 12);
        return (float) v;
    }

    private void unpack(Model m, int begin) {
        for (Tensor t : m.infos.values()) {
            t.weights = new float[t.rows][t.columns];
            for (int r = 0; r < t.rows; r++) {
                for (int c = 0; c < t.columns; c++) {
                    t.weights[r][c] = weightAt(t, begin + t.offset, r, c);
                }
            }
        }
    }

    private float weightAt(Tensor t, int from, int r, int c) {
        if (t.packing == 0) {
            return half(from + 2 * (r * t.columns + c), 16);
        }
        int block = r * (t.columns / 8) + c / 8;
        int j = c % 8;
        if (t.packing == 2) {
            int at = from + block * 10;
            int n = file.get(at + 2 + j);
            return (n > 127 ? n - 256 : n) * half(at, 1);
        }
        int at = from + block * 6;
        int both = file.get(at + 2 + j % 4);
        return ((j < 4 ? both % 16 : both / 16) - 8) * half(at, 1);
    }

    int fact(int what) {
        if (model == null) {
            return -3;
        }
        int[] all = {model.dim, model.heads, model.kv, model.layers, model.ffn, model.ctx,
            model.tokens.size(), model.merges.size(), model.stop, model.pairs.size(),
            model.infos.size(), model.align};
        return what < 0 || what > 11 ? -1 : all[what];
    }

    int weight(int t, int row, int column) {
        if (model == null) {
            return -3;
        }
        if (t < 0 || t >= model.infos.size()) {
            return -1;
        }
        Tensor one = new ArrayList<>(model.infos.values()).get(t);
        if (row < 0 || row >= one.rows || column < 0 || column >= one.columns) {
            return -1;
        }
        return (int) (one.weights[row][column] * 65536);
    }

    int text(long w, int n) {
        if (n < 1 || n > 8) {
            return -1;
        }
        if (text.length() + n > 24) {
            return -2;
        }
        for (int i = 0; i < n; i++) {
            text += (char) (w >> 8 * i & 255);
        }
        return text.length();
    }

    int encode() {
        if (model == null) {
            return -3;
        }
        encoded = new ArrayList<>();
        for (char c : text.toCharArray()) {
            encoded.add(Math.max(0, model.tokens.indexOf(String.valueOf(c))));
        }
        text = "";
        int m = 0;
        while (m < model.merges.size()) {
            int[] merge = model.merges.get(m);
            int at = 0;
            while (at + 1 < encoded.size()
                && !(encoded.get(at) == merge[0] && encoded.get(at + 1) == merge[1])) {
                at++;
            }
            if (at + 1 < encoded.size()) {
                encoded.remove(at + 1);
                encoded.set(at, merge[2]);
                m = 0;
            } else {
                m++;
            }
        }
        return encoded.size();
    }

    int token(int k) {
        return k < 0 || k >= encoded.size() ? -1 : encoded.get(k);
    }

    private boolean noToken(int k) {
        return k < 0 || k >= model.tokens.size();
    }

    int letter(int token, int i) {
        if (model == null || noToken(token) || i < 0 || i >= model.tokens.get(token).length()) {
            return -1;
        }
        return model.tokens.get(token).charAt(i);
    }

    private static float root(float v) {
        float y = (v + 1) / 2;
        for (int i = 1; i <= 40; i++) {
            y = (y + v / y) / 2;
        }
        return y;
    }

    private static float exp(float v) {
        float y = 1 + Math.max(-16f, Math.min(16f, v)) / 256;
        for (int i = 1; i <= 8; i++) {
            y *= y;
        }
        return y;
    }

    private static float dot(float[] w, float[] x) {
        float s = 0;
        for (int j = 0; j < w.length; j++) {
            s += w[j] * x[j];
        }
        return s;
    }

    private float[][] rows(String name) {
        return model.infos.get(name).weights;
    }

    private float[] times(String name, float[] x) {
        float[][] w = rows(name);
        float[] y = new float[w.length];
        for (int i = 0; i < y.length; i++) {
            y[i] = dot(w[i], x);
        }
        return y;
    }

    private float[] norm(String name, float[] x) {
        float r = 1 / root(dot(x, x) / model.dim + model.eps);
        float[] y = new float[x.length];
        for (int j = 0; j < x.length; j++) {
            y[j] = x[j] * r * rows(name)[0][j];
        }
        return y;
    }

    private float[] turned(float[] x, int p) {
        int size = model.dim / model.heads;
        float[] y = new float[x.length];
        for (int at = 0; at < x.length; at += 2) {
            float f = 4;
            for (int i = at % size / 2; i > 0; i--) {
                f = f * model.base;
            }
            float u = p / f;
            float c = (1 - u * u) / (1 + u * u);
            float s = (u + u) / (1 + u * u);
            y[at] = x[at] * c - x[at + 1] * s;
            y[at + 1] = x[at] * s + x[at + 1] * c;
        }
        return y;
    }

    private static float[] part(float[] x, int which, int size) {
        return java.util.Arrays.copyOfRange(x, which * size, which * size + size);
    }

    private static float[] plus(float[] x, float[] more) {
        float[] y = new float[x.length];
        for (int i = 0; i < y.length; i++) {
            y[i] = x[i] + more[i];
        }
        return y;
    }

    private float[] attention(int l, float[] q) {
        int size = model.dim / model.heads;
        int n = keys.get(l).size();
        float[] w = new float[model.dim];
        for (int h = 0; h < model.heads; h++) {
            int own = h / (model.heads / model.kv);
            float[] z = new float[n];
            float m = Float.NEGATIVE_INFINITY;
            for (int t = 0; t < n; t++) {
                z[t] = dot(part(keys.get(l).get(t), own, size), part(q, h, size)) / root(size);
                m = Math.max(m, z[t]);
            }
            float e = 0;
            for (int t = 0; t < n; t++) {
                e += exp(z[t] - m);
            }
            for (int t = 0; t < n; t++) {
                for (int j = 0; j < size; j++) {
                    w[h * size + j] += exp(z[t] - m) / e * values.get(l).get(t)[own * size + j];
                }
            }
        }
        return w;
    }

    int step(int token) {
        if (model == null) {
            return -3;
        }
        if (noToken(token)) {
            return -1;
        }
        if (steps == 60) {
            return -2;
        }
        float[] x = rows("embed")[token].clone();
        for (int l = 0; l < model.layers; l++) {
            if (steps == 0) {
                keys.add(new ArrayList<>());
                values.add(new ArrayList<>());
            }
            float[] y = norm("a" + l, x);
            keys.get(l).add(turned(times("k" + l, y), steps));
            values.get(l).add(times("v" + l, y));
            if (keys.get(l).size() > model.ctx) {
                keys.get(l).remove(0);
                values.get(l).remove(0);
            }
            x = plus(x, times("o" + l, attention(l, turned(times("q" + l, y), steps))));
            y = norm("f" + l, x);
            float[] g = times("g" + l, y);
            float[] u = times("u" + l, y);
            float[] n = new float[model.ffn];
            for (int i = 0; i < n.length; i++) {
                n[i] = g[i] / (1 + exp(0 - g[i])) * u[i];
            }
            x = plus(x, times("d" + l, n));
        }
        logits = times("out", norm("norm", x));
        return steps++;
    }

    float rawLogit(int k) {
        return logits[k];
    }

    int logit(int k) {
        if (logits == null) {
            return -3;
        }
        return noToken(k) ? -1 : (int) (logits[k] * 1024);
    }

    void seed(long v) {
        seed = v == 0 ? 1 : v;
    }

    private List<Integer> order() {
        List<Integer> all = new ArrayList<>();
        for (int i = 0; i < model.tokens.size(); i++) {
            all.add(i);
        }
        all.sort((a, b) -> logits[a] == logits[b] ? a - b : logits[a] > logits[b] ? -1 : 1);
        return all;
    }

    private static float sum(List<Float> e, int n) {
        float s = 0;
        for (int i = 0; i < n; i++) {
            s += e.get(i);
        }
        return s;
    }

    int draw(int temperature, int k, int percent) {
        if (temperature < 0 || temperature > 400 || k < 1 || k > 16 || percent < 1 || percent > 100) {
            return -1;
        }
        if (logits == null) {
            return -3;
        }
        List<Integer> order = order();
        if (temperature == 0) {
            return order.get(0);
        }
        float t = temperature / 100f;
        List<Float> e = new ArrayList<>();
        for (int i = 0; i < Math.min(k, order.size()); i++) {
            e.add(exp((logits[order.get(i)] - logits[order.get(0)]) / t));
        }
        int stay = 1;
        while (!(sum(e, stay) >= percent / 100f * sum(e, e.size()))) {
            stay++;
        }
        seed ^= seed << 13;
        seed ^= seed >>> 7;
        seed ^= seed << 17;
        float d = (seed >>> 40) / 16777216f * sum(e, stay);
        for (int i = 0; i < stay; i++) {
            if (sum(e, i + 1) > d) {
                return order.get(i);
            }
        }
        return order.get(stay - 1);
    }

    int say(int n) {
        if (n < 1 || n > 16) {
            return -1;
        }
        if (logits == null) {
            return -3;
        }
        for (int i = 1; i <= n; i++) {
            int t = order().get(0);
            sayings.add(0, t);
            if (t == model.stop || step(t) == -2) {
                return i;
            }
        }
        return n;
    }

    int said(int k) {
        return k < 0 || k >= Math.min(32, sayings.size()) ? -1 : sayings.get(k);
    }

    int reset() {
        int n = steps;
        steps = 0;
        logits = null;
        keys.clear();
        values.clear();
        sayings.clear();
        encoded = new ArrayList<>();
        text = "";
        return n;
    }
}
