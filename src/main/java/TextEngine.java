/**
 * An engine that continues texts: a FILE is read and becomes the MODEL if it is sound, texts become
 * TOKENS by merging, TOKENS go through the layers of a small network, and the next one is the
 * likeliest, or drawn. The words in capitals are those of the document.
 */
public final class TextEngine {
    public static final int REFUSED = -1, FULL = -2, NONE = -3;

    private static final int FILE_ROOM = 1400, TEXT_ROOM = 24, STEPS_MOST = 60;
    private static final int COUNT_MOST = 24, STRING_MOST = 16, SIDE_MOST = 16, DEPTH_MOST = 3;
    private static final int TOKENS_MOST = 16, TOKEN_LONGEST = 4, MERGES_MOST = 12, SAY_MOST = 16;
    private static final int LAYERS_MOST = 2, CTX_MOST = 8, SAID_KEPT = 32, BLOCK = 8;

    // The densest packing has a BLOCK of 8 weights in 6 OCTETS, and no two TENSORS share an OCTET.
    private static final int WEIGHT_ROOM = FILE_ROOM * 8 / 6;

    private static final int SHORT = 1, MAGIC = 2, AGE = 3, LONG = 4, TYPE = 5, DEEP = 6, TWICE = 7;
    private static final int MISSING = 8, VALUE = 9, SHAPE = 10, PLACE = 11, WEIGHT = 12;

    private static final int NUMBER_TYPE = 0, REAL_TYPE = 1, TEXT_TYPE = 2, ARRAY_TYPE = 3;
    private static final int HALVES = 0, FOURS = 1, EIGHTS = 2;
    private static final int FOURS_BLOCK = 6, EIGHTS_BLOCK = 10;
    private static final long MAGIC_NUMBER = 0x46554747L, VERSION_NUMBER = 3L;

    // The first twelve are the numbers of fact(); the two REALS stand behind them.
    private static final int DIM = 0, HEADS = 1, KV = 2, LAYERS = 3, FFN = 4, CTX = 5, TOKENS = 6;
    private static final int MERGES = 7, STOP = 8, PAIRS = 9, TENSORS = 10, ALIGN = 11, FACTS = 12;
    private static final int EPS = 12, BASE = 13, KEYS = 14;

    // Where each needed TENSOR stands among the needed ones; those of a layer count from its first.
    private static final int EMBED = 0, LAST_NORM = 1, OUT = 2, FIRST_LAYER = 3, LAYER_PARTS = 9;
    private static final int A = 0, Q = 1, K = 2, V = 3, O = 4, F = 5, G = 6, U = 7, D = 8;
    private static final String LAYER_NAMES = "a0q0k0v0o0f0g0u0d0a1q1k1v1o1f1g1u1d1";

    private final Octets file = new Octets(FILE_ROOM);
    private final Octets text = new Octets(TEXT_ROOM);
    private final Reader reader = new Reader(file);
    private final Maker maker = new Maker(file, reader);
    private final Encoder encoder = new Encoder();
    private final Network network = new Network();
    private final Chooser chooser = new Chooser();
    private final Sayings sayings = new Sayings();
    private Model model = null;
    private Model spare = new Model();

    public TextEngine() {
    }

    public int file(long w, int n) {
        return file.append(w, n);
    }

    public int flip(int k, int x) {
        return x < 0 || x > 255 ? REFUSED : file.change(k, x);
    }

    public int clear() {
        int had = file.size;
        file.size = 0;
        return had;
    }

    public int load() {
        int fault = reader.readParts();
        if (fault == 0) {
            fault = maker.make(spare);
        }
        if (fault == 0) {
            takeSpare();
        }
        return fault;
    }

    // The old MODEL's rows are kept for the next FILE, so that a run of loads makes nothing new.
    private void takeSpare() {
        Model old = model;
        model = spare;
        spare = old == null ? new Model() : old;
        forget();
    }

    private void forget() {
        network.forgetSteps();
        encoder.count = 0;
        text.size = 0;
        sayings.total = 0;
    }

    public int place() {
        return reader.faultPlace;
    }

    public int fact(int what) {
        if (model == null) {
            return NONE;
        }
        return what < 0 || what >= FACTS ? REFUSED : model.facts[what];
    }

    public int weight(int t, int row, int column) {
        if (model == null) {
            return NONE;
        }
        if (!model.tensors.has(t, row, column)) {
            return REFUSED;
        }
        return (int) (model.tensors.at(t, row, column) * 65536f);
    }

    public int text(long w, int n) {
        return text.append(w, n);
    }

    public int encode() {
        if (model == null) {
            return NONE;
        }
        encoder.turnIntoTokens(text, model.words);
        text.size = 0;
        return encoder.count;
    }

    public int token(int k) {
        return k < 0 || k >= encoder.count ? REFUSED : encoder.tokens[k];
    }

    public int letter(int token, int i) {
        return model == null || !model.isToken(token) ? REFUSED : model.words.octetOf(token, i);
    }

    public int step(int token) {
        if (model == null) {
            return NONE;
        }
        if (!model.isToken(token)) {
            return REFUSED;
        }
        return network.steps >= STEPS_MOST ? FULL : network.advance(model, token);
    }

    public int logit(int k) {
        if (hasNoLogits()) {
            return NONE;
        }
        return model.isToken(k) ? (int) (network.logits[k] * 1024f) : REFUSED;
    }

    private boolean hasNoLogits() {
        return model == null || network.steps == 0;
    }

    public void seed(long v) {
        chooser.state = v == 0L ? 1L : v;
    }

    public int draw(int temperature, int k, int percent) {
        if (temperature < 0 || temperature > 400 || k < 1 || k > TOKENS_MOST) {
            return REFUSED;
        }
        if (percent < 1 || percent > 100) {
            return REFUSED;
        }
        if (hasNoLogits()) {
            return NONE;
        }
        chooser.sort(network.logits, model.facts[TOKENS]);
        if (temperature == 0) {
            return chooser.order[0];
        }
        return chooser.pick(network.logits, temperature, Math.min(k, model.facts[TOKENS]), percent);
    }

    public int say(int n) {
        if (n < 1 || n > SAY_MOST) {
            return REFUSED;
        }
        if (hasNoLogits()) {
            return NONE;
        }
        int count = 0;
        boolean more = true;
        while (more && count < n) {
            more = sayOne();
            count++;
        }
        return count;
    }

    private boolean sayOne() {
        chooser.sort(network.logits, model.facts[TOKENS]);
        int likeliest = chooser.order[0];
        sayings.add(likeliest);
        if (likeliest == model.facts[STOP] || network.steps >= STEPS_MOST) {
            return false;
        }
        network.advance(model, likeliest);
        return true;
    }

    public int said(int k) {
        return sayings.before(k);
    }

    public int reset() {
        int had = network.steps;
        forget();
        return had;
    }

    /** A row of OCTETS that grows up to its room: the FILE, or the TEXT. */
    private static final class Octets {
        private final byte[] row;
        private int size = 0;

        Octets(int room) {
            row = new byte[room];
        }

        int append(long w, int n) {
            if (n < 1 || n > 8) {
                return REFUSED;
            }
            if (size + n > row.length) {
                return FULL;
            }
            for (int i = 0; i < n; i++) {
                row[size + i] = (byte) (w >>> (8 * i));
            }
            size += n;
            return size;
        }

        int change(int k, int x) {
            if (k < 0 || k >= size) {
                return REFUSED;
            }
            row[k] = (byte) (row[k] ^ x);
            return row[k] & 255;
        }

        int at(int k) {
            return k < 0 || k >= size ? 0 : row[k] & 255;
        }

        long number(int k, int n) {
            long sum = 0;
            for (int i = 0; i < n; i++) {
                sum |= (long) at(k + i) << (8 * i);
            }
            return sum;
        }

        boolean sameStrings(int k, int other) {
            int n = at(k);
            for (int i = 0; i <= n; i++) {
                if (at(k + i) != at(other + i)) {
                    return false;
                }
            }
            return true;
        }

        /** Whether the STRING at k is the n characters of s from the given one on. */
        boolean spells(int k, String s, int from, int n) {
            if (at(k) != n || from < 0 || from + n > s.length()) {
                return false;
            }
            for (int i = 0; i < n; i++) {
                if (at(k + 1 + i) != s.charAt(from + i)) {
                    return false;
                }
            }
            return true;
        }
    }

    /** Reads the PARTS in order, up to the first FAULT of 1 to 7, and notes where things stand. */
    private static final class Reader {
        private final Octets file;
        private final int[] keyAt = new int[COUNT_MOST];
        private final int[] types = new int[COUNT_MOST];
        private final int[] valueAt = new int[COUNT_MOST];
        private final int[] nameAt = new int[COUNT_MOST];
        private final int[] columns = new int[COUNT_MOST];
        private final int[] rows = new int[COUNT_MOST];
        private final int[] packings = new int[COUNT_MOST];
        private final int[] offsets = new int[COUNT_MOST];
        private int pairs = 0;
        private int tensors = 0;
        private int next = 0;
        private int fault = 0;
        private int faultPlace = -1;

        Reader(Octets file) {
            this.file = file;
        }

        int readParts() {
            next = 0;
            fault = 0;
            faultPlace = -1;
            if (readHead() && readPairs()) {
                readInfos();
            }
            return fault;
        }

        private boolean fail(int what, int where) {
            fault = what;
            faultPlace = where;
            return false;
        }

        /** The number of n OCTETS that stands next, or -1 if it is SHORT. */
        private long readNumber(int n) {
            if (next + n > file.size) {
                fail(SHORT, next);
                return -1;
            }
            long number = file.number(next, n);
            next += n;
            return number;
        }

        /** A number of one OCTET that must be from low to high, else the FAULT is noted: -1. */
        private int readSmall(int low, int high, int faultOutside) {
            if (next >= file.size) {
                fail(SHORT, next);
                return -1;
            }
            int number = file.at(next);
            if (number < low || number > high) {
                fail(faultOutside, next);
                return -1;
            }
            next++;
            return number;
        }

        private boolean readString(int shortest) {
            int n = file.at(next);
            if (next + 1 + n > file.size) {
                return fail(SHORT, next);
            }
            if (n < shortest || n > STRING_MOST) {
                return fail(LONG, next);
            }
            next += 1 + n;
            return true;
        }

        /** A KEY or NAME, which must be none of the earlier ones, comes to the places. */
        private boolean readName(int[] places, int earlier) {
            int from = next;
            if (!readString(1)) {
                return false;
            }
            for (int i = 0; i < earlier; i++) {
                if (file.sameStrings(places[i], from)) {
                    return fail(TWICE, from);
                }
            }
            places[earlier] = from;
            return true;
        }

        private boolean readHead() {
            long magic = readNumber(4);
            if (magic < 0) {
                return false;
            }
            if (magic != MAGIC_NUMBER) {
                return fail(MAGIC, 0);
            }
            int from = next;
            long version = readNumber(4);
            if (version < 0) {
                return false;
            }
            if (version != VERSION_NUMBER) {
                return fail(AGE, from);
            }
            tensors = readSmall(0, COUNT_MOST, LONG);
            if (tensors < 0) {
                return false;
            }
            pairs = readSmall(0, COUNT_MOST, LONG);
            return pairs >= 0;
        }

        private boolean readPairs() {
            for (int i = 0; i < pairs; i++) {
                if (!readName(keyAt, i)) {
                    return false;
                }
                types[i] = readSmall(NUMBER_TYPE, ARRAY_TYPE, TYPE);
                valueAt[i] = next;
                if (types[i] < 0 || !readValue(types[i], 1)) {
                    return false;
                }
            }
            return true;
        }

        /** The depth counts the ARRAYS that a VALUE is in, and itself. */
        private boolean readValue(int type, int depth) {
            if (type == NUMBER_TYPE) {
                return readNumber(4) >= 0;
            }
            if (type == REAL_TYPE) {
                return readNumber(2) >= 0;
            }
            if (type == TEXT_TYPE) {
                return readString(0);
            }
            int from = next;
            int inner = readSmall(NUMBER_TYPE, ARRAY_TYPE, TYPE);
            if (inner < 0) {
                return false;
            }
            if (inner == ARRAY_TYPE && depth >= DEPTH_MOST) {
                return fail(DEEP, from);
            }
            int count = readSmall(0, COUNT_MOST, LONG);
            for (int i = 0; i < count; i++) {
                if (!readValue(inner, depth + 1)) {
                    return false;
                }
            }
            return count >= 0;
        }

        private void readInfos() {
            boolean sound = true;
            for (int i = 0; sound && i < tensors; i++) {
                sound = readName(nameAt, i) && readSides(i);
            }
        }

        private boolean readSides(int i) {
            int sides = readSmall(1, 2, LONG);
            if (sides < 0) {
                return false;
            }
            int columnsAt = next;
            columns[i] = readSmall(1, SIDE_MOST, LONG);
            if (columns[i] < 0) {
                return false;
            }
            rows[i] = sides == 2 ? readSmall(1, SIDE_MOST, LONG) : 1;
            if (rows[i] < 0) {
                return false;
            }
            packings[i] = readSmall(HALVES, EIGHTS, TYPE);
            if (packings[i] < 0) {
                return false;
            }
            if (packings[i] != HALVES && columns[i] % BLOCK != 0) {
                return fail(LONG, columnsAt);
            }
            offsets[i] = (int) readNumber(2);
            return offsets[i] >= 0;
        }

        /** How many OCTETS of the DATA a TENSOR has. */
        int dataSize(int t) {
            int weights = columns[t] * rows[t];
            if (packings[t] == HALVES) {
                return weights * 2;
            }
            return weights / BLOCK * (packings[t] == FOURS ? FOURS_BLOCK : EIGHTS_BLOCK);
        }

        int pairOf(String key) {
            for (int i = 0; i < pairs; i++) {
                if (file.spells(keyAt[i], key, 0, key.length())) {
                    return i;
                }
            }
            return -1;
        }

        int tensorOf(String names, int from, int n) {
            for (int i = 0; i < tensors; i++) {
                if (file.spells(nameAt[i], names, from, n)) {
                    return i;
                }
            }
            return -1;
        }
    }

    /** Makes a MODEL from a FILE whose PARTS have been read, up to the first FAULT of 8 to 12. */
    private static final class Maker {
        private final Octets file;
        private final Reader reader;
        private final int[] valueAt = new int[KEYS];

        Maker(Octets file, Reader reader) {
            this.file = file;
            this.reader = reader;
        }

        int make(Model m) {
            if (!findKeys()) {
                return MISSING;
            }
            if (!takeNumbers(m) || !takeReals(m) || !takeWords(m)) {
                return VALUE;
            }
            if (!takeShapes(m)) {
                return SHAPE;
            }
            int begin = dataBegin(m.facts[ALIGN]);
            if (!areWellPlaced(m.facts[ALIGN], begin)) {
                return PLACE;
            }
            return takeWeights(m.tensors, begin) ? 0 : WEIGHT;
        }

        private boolean findKeys() {
            return findKey(DIM, "dim", NUMBER_TYPE) && findKey(HEADS, "heads", NUMBER_TYPE)
                && findKey(KV, "kv", NUMBER_TYPE) && findKey(LAYERS, "layers", NUMBER_TYPE)
                && findKey(FFN, "ffn", NUMBER_TYPE) && findKey(CTX, "ctx", NUMBER_TYPE)
                && findKey(EPS, "eps", REAL_TYPE) && findKey(BASE, "base", REAL_TYPE)
                && findKey(TOKENS, "tokens", ARRAY_TYPE) && isArrayOf(valueAt[TOKENS], TEXT_TYPE)
                && findKey(MERGES, "merges", ARRAY_TYPE) && isArrayOfNumberArrays(valueAt[MERGES])
                && findKey(STOP, "stop", NUMBER_TYPE)
                && (findKey(ALIGN, "align", NUMBER_TYPE) || valueAt[ALIGN] < 0);
        }

        /** Notes where the VALUE is, -1 if there is none; whether it is there with its TYPE. */
        private boolean findKey(int key, String word, int type) {
            int pair = reader.pairOf(word);
            valueAt[key] = pair < 0 ? -1 : reader.valueAt[pair];
            return pair >= 0 && reader.types[pair] == type;
        }

        private boolean isArrayOf(int at, int type) {
            return file.at(at + 1) == 0 || file.at(at) == type;
        }

        private boolean isArrayOfNumberArrays(int at) {
            if (!isArrayOf(at, ARRAY_TYPE)) {
                return false;
            }
            int count = file.at(at + 1);
            int inner = at + 2;
            for (int i = 0; i < count; i++) {
                if (!isArrayOf(inner, NUMBER_TYPE)) {
                    return false;
                }
                inner += 2 + 4 * file.at(inner + 1);
            }
            return true;
        }

        private boolean takeNumbers(Model m) {
            m.facts[PAIRS] = reader.pairs;
            m.facts[TENSORS] = reader.tensors;
            return takeNumber(m, DIM, 8, 16) && m.facts[DIM] % 8 == 0 && takeHeads(m)
                && takeNumber(m, LAYERS, 1, LAYERS_MOST)
                && takeNumber(m, FFN, 8, 16) && m.facts[FFN] % 8 == 0
                && takeNumber(m, CTX, 2, CTX_MOST)
                && takeAlign(m);
        }

        private boolean takeHeads(Model m) {
            if (!takeNumber(m, HEADS, 1, 4) || m.facts[HEADS] == 3) {
                return false;
            }
            if (!takeNumber(m, KV, 1, 4) || m.facts[HEADS] % m.facts[KV] != 0) {
                return false;
            }
            m.headSize = m.facts[DIM] / m.facts[HEADS];
            m.sharers = m.facts[HEADS] / m.facts[KV];
            return true;
        }

        private boolean takeNumber(Model m, int key, int low, int high) {
            long number = file.number(valueAt[key], 4);
            if (number < low || number > high) {
                return false;
            }
            m.facts[key] = (int) number;
            return true;
        }

        private boolean takeAlign(Model m) {
            m.facts[ALIGN] = 8;
            return valueAt[ALIGN] < 0 || takeNumber(m, ALIGN, 1, 64);
        }

        private boolean takeReals(Model m) {
            int eps = (int) file.number(valueAt[EPS], 2);
            int base = (int) file.number(valueAt[BASE], 2);
            if (!isReal(eps) || !isReal(base)) {
                return false;
            }
            m.eps = realOf(eps);
            m.base = realOf(base);
            return m.eps >= 1f / 1024f && m.eps <= 1f && m.base >= 1f && m.base <= 16f;
        }

        private boolean takeWords(Model m) {
            return takeTokens(m) && takeMerges(m) && takeNumber(m, STOP, 0, m.facts[TOKENS] - 1);
        }

        private boolean takeTokens(Model m) {
            int count = file.at(valueAt[TOKENS] + 1);
            if (count < 2 || count > TOKENS_MOST) {
                return false;
            }
            m.facts[TOKENS] = count;
            m.words.count = 0;
            int at = valueAt[TOKENS] + 2;
            for (int i = 0; i < count; i++) {
                int n = file.at(at);
                if (n < 1 || n > TOKEN_LONGEST || !m.words.addToken(file.number(at + 1, n), n)) {
                    return false;
                }
                at += 1 + n;
            }
            return true;
        }

        private boolean takeMerges(Model m) {
            int count = file.at(valueAt[MERGES] + 1);
            if (count > MERGES_MOST) {
                return false;
            }
            m.facts[MERGES] = count;
            m.words.merges = 0;
            int at = valueAt[MERGES] + 2;
            for (int i = 0; i < count; i++) {
                if (file.at(at + 1) != 2
                    || !m.words.addMerge(file.number(at + 2, 4), file.number(at + 6, 4))) {
                    return false;
                }
                at += 10;
            }
            return true;
        }

        private boolean takeShapes(Model m) {
            Tensors all = m.tensors;
            all.count = reader.tensors;
            for (int t = 0; t < all.count; t++) {
                all.columns[t] = reader.columns[t];
                all.rows[t] = reader.rows[t];
            }
            int dim = m.facts[DIM];
            int tokens = m.facts[TOKENS];
            if (!need(all, EMBED, reader.tensorOf("embed", 0, 5), dim, tokens)
                || !need(all, LAST_NORM, reader.tensorOf("norm", 0, 4), dim, 1)
                || !need(all, OUT, reader.tensorOf("out", 0, 3), dim, tokens)) {
                return false;
            }
            int parts = m.facts[LAYERS] * LAYER_PARTS;
            for (int i = 0; i < parts; i++) {
                int part = i % LAYER_PARTS;
                int t = reader.tensorOf(LAYER_NAMES, 2 * i, 2);
                if (!need(all, FIRST_LAYER + i, t, part == D ? m.facts[FFN] : dim, rowsOf(part, m))) {
                    return false;
                }
            }
            return true;
        }

        private static boolean need(Tensors all, int which, int t, int columns, int rows) {
            if (t < 0 || all.columns[t] != columns || all.rows[t] != rows) {
                return false;
            }
            all.needed[which] = t;
            return true;
        }

        private static int rowsOf(int part, Model m) {
            switch (part) {
                case A:
                case F:
                    return 1;
                case K:
                case V:
                    return m.headSize * m.facts[KV];
                case G:
                case U:
                    return m.facts[FFN];
                default:
                    return m.facts[DIM];
            }
        }

        private int dataBegin(int align) {
            return align < 1 ? reader.next : (reader.next + align - 1) / align * align;
        }

        private boolean areWellPlaced(int align, int begin) {
            for (int t = 0; t < reader.tensors; t++) {
                if (align < 1 || reader.offsets[t] % align != 0) {
                    return false;
                }
                if (begin + reader.offsets[t] + reader.dataSize(t) > file.size || overlapsEarlier(t)) {
                    return false;
                }
            }
            return true;
        }

        private boolean overlapsEarlier(int t) {
            int from = reader.offsets[t];
            int end = from + reader.dataSize(t);
            for (int i = 0; i < t; i++) {
                int other = reader.offsets[i];
                if (from < other + reader.dataSize(i) && other < end) {
                    return true;
                }
            }
            return false;
        }

        private boolean takeWeights(Tensors all, int begin) {
            int start = 0;
            for (int t = 0; t < all.count; t++) {
                all.starts[t] = start;
                if (!unpack(all, t, begin + reader.offsets[t])) {
                    return false;
                }
                start += all.columns[t] * all.rows[t];
            }
            return true;
        }

        private boolean unpack(Tensors all, int t, int from) {
            int packing = reader.packings[t];
            int weights = all.columns[t] * all.rows[t];
            if (all.starts[t] + weights > WEIGHT_ROOM) {
                return false;
            }
            if (packing == HALVES) {
                return unpackHalves(all.weights, all.starts[t], weights, from);
            }
            int blockSize = packing == FOURS ? FOURS_BLOCK : EIGHTS_BLOCK;
            for (int b = 0; b < weights / BLOCK; b++) {
                int at = from + b * blockSize;
                int scale = (int) file.number(at, 2);
                if (!isWithin(scale, 1f)) {
                    return false;
                }
                if (packing == FOURS) {
                    unpackFours(all.weights, all.starts[t] + b * BLOCK, realOf(scale), at + 2);
                } else {
                    unpackEights(all.weights, all.starts[t] + b * BLOCK, realOf(scale), at + 2);
                }
            }
            return true;
        }

        private boolean unpackHalves(float[] to, int start, int count, int from) {
            for (int i = 0; i < count; i++) {
                int half = (int) file.number(from + 2 * i, 2);
                if (!isWithin(half, 16f)) {
                    return false;
                }
                to[start + i] = realOf(half);
            }
            return true;
        }

        private void unpackFours(float[] to, int start, float scale, int from) {
            for (int j = 0; j < BLOCK / 2; j++) {
                int both = file.at(from + j);
                to[start + j] = (float) ((both & 15) - 8) * scale;
                to[start + j + BLOCK / 2] = (float) ((both >> 4) - 8) * scale;
            }
        }

        private void unpackEights(float[] to, int start, float scale, int from) {
            for (int j = 0; j < BLOCK; j++) {
                to[start + j] = (float) (byte) file.at(from + j) * scale;
            }
        }

        private static boolean isReal(int half) {
            return (half >> 10 & 31) != 31;
        }

        private static boolean isWithin(int half, float most) {
            if (!isReal(half)) {
                return false;
            }
            float real = realOf(half);
            return real <= most && real >= -most;
        }

        /** Counted in units of 2^-24 a HALF is a whole number of 11 bits, moved up: nothing is lost. */
        private static float realOf(int half) {
            int e = half >> 10 & 31;
            long f = half & 1023;
            long units = e == 0 ? f : (1024 + f) << (e - 1);
            float size = (float) units / 16777216f;
            return (half >> 15 & 1) == 1 ? -size : size;
        }
    }

    /** What a sound FILE says. */
    private static final class Model {
        private final int[] facts = new int[FACTS];
        private final Words words = new Words();
        private final Tensors tensors = new Tensors();
        private float eps = 1f;
        private float base = 1f;
        private int headSize = 1;
        private int sharers = 1;

        boolean isToken(int k) {
            return k >= 0 && k < facts[TOKENS];
        }
    }

    /** The TOKENS and the merges. A TOKEN is one long: its length above its (at most 4) OCTETS. */
    private static final class Words {
        private final long[] tokens = new long[TOKENS_MOST];
        private final int[] left = new int[MERGES_MOST];
        private final int[] right = new int[MERGES_MOST];
        private final int[] both = new int[MERGES_MOST];
        private int count = 0;
        private int merges = 0;

        private static long tokenOf(long octets, int n) {
            return (long) n << 32 | octets;
        }

        private int lengthOf(int token) {
            return (int) (tokens[token] >>> 32);
        }

        private long octetsOf(int token) {
            return tokens[token] & 0xFFFFFFFFL;
        }

        int find(long octets, int n) {
            for (int i = 0; i < count; i++) {
                if (tokens[i] == tokenOf(octets, n)) {
                    return i;
                }
            }
            return -1;
        }

        boolean addToken(long octets, int n) {
            if (count >= TOKENS_MOST || find(octets, n) >= 0) {
                return false;
            }
            tokens[count] = tokenOf(octets, n);
            count++;
            return true;
        }

        boolean addMerge(long a, long b) {
            if (merges >= MERGES_MOST || a < 0 || a >= count || b < 0 || b >= count) {
                return false;
            }
            int together = join((int) a, (int) b);
            if (together < 0) {
                return false;
            }
            left[merges] = (int) a;
            right[merges] = (int) b;
            both[merges] = together;
            merges++;
            return true;
        }

        private int join(int a, int b) {
            int n = lengthOf(a) + lengthOf(b);
            if (n > TOKEN_LONGEST) {
                return -1;
            }
            return find(octetsOf(a) | octetsOf(b) << (8 * lengthOf(a)), n);
        }

        int octetOf(int token, int i) {
            return i < 0 || i >= lengthOf(token) ? REFUSED : (int) (tokens[token] >>> (8 * i)) & 255;
        }
    }

    /** The weights of all TENSORS, one behind the other. */
    private static final class Tensors {
        private final int[] starts = new int[COUNT_MOST];
        private final int[] columns = new int[COUNT_MOST];
        private final int[] rows = new int[COUNT_MOST];
        private final int[] needed = new int[FIRST_LAYER + LAYERS_MOST * LAYER_PARTS];
        private final float[] weights = new float[WEIGHT_ROOM];
        private int count = 0;

        boolean has(int t, int row, int column) {
            return t >= 0 && t < count && row >= 0 && row < rows[t]
                && column >= 0 && column < columns[t];
        }

        float at(int t, int row, int column) {
            return weights[starts[t] + row * columns[t] + column];
        }

        float dot(int part, int row, float[] x) {
            int t = needed[part];
            int from = starts[t] + row * columns[t];
            float sum = 0f;
            for (int j = 0; j < columns[t]; j++) {
                sum = sum + weights[from + j] * x[j];
            }
            return sum;
        }

        /** The DOTS of all ROWS and x, put into a row from the given place on. */
        void multiply(int part, float[] x, float[] to, int start) {
            int last = rows[needed[part]] - 1;
            for (int i = 0; i <= last; i++) {
                to[start + i] = dot(part, i, x);
            }
        }

        /** The DOTS of all ROWS and y, each added to its x. */
        void addProducts(int part, float[] y, float[] x) {
            int last = rows[needed[part]] - 1;
            for (int i = 0; i <= last; i++) {
                x[i] = x[i] + dot(part, i, y);
            }
        }
    }

    /** Turns a TEXT into TOKENS. */
    private static final class Encoder {
        private final int[] tokens = new int[TEXT_ROOM];
        private int count = 0;

        void turnIntoTokens(Octets text, Words words) {
            count = text.size;
            for (int i = 0; i < count; i++) {
                tokens[i] = Math.max(words.find(text.at(i), 1), 0);
            }
            boolean merged = true;
            for (int i = 0; merged && i < TEXT_ROOM; i++) {
                merged = mergeOnce(words);
            }
        }

        private boolean mergeOnce(Words words) {
            for (int m = 0; m < words.merges; m++) {
                for (int i = 0; i + 1 < count; i++) {
                    if (tokens[i] == words.left[m] && tokens[i + 1] == words.right[m]) {
                        join(i, words.both[m]);
                        return true;
                    }
                }
            }
            return false;
        }

        private void join(int i, int both) {
            tokens[i] = both;
            count--;
            for (int j = i + 1; j < count; j++) {
                tokens[j] = tokens[j + 1];
            }
        }
    }

    /** Does the STEPS and keeps what they REMEMBER and the LOGITS. */
    private static final class Network {
        private final float[] x = new float[SIDE_MOST];
        private final float[] y = new float[SIDE_MOST];
        private final float[] q = new float[SIDE_MOST];
        private final float[] w = new float[SIDE_MOST];
        private final float[] g = new float[SIDE_MOST];
        private final float[] u = new float[SIDE_MOST];
        private final float[] shares = new float[CTX_MOST];
        private final float[] logits = new float[TOKENS_MOST];
        private final float[][] keys = new float[LAYERS_MOST][CTX_MOST * SIDE_MOST];
        private final float[][] values = new float[LAYERS_MOST][CTX_MOST * SIDE_MOST];
        private int steps = 0;

        void forgetSteps() {
            steps = 0;
        }

        /** A STEP: its POSITION. */
        int advance(Model m, int token) {
            int embed = m.tensors.needed[EMBED];
            for (int j = 0; j < m.facts[DIM]; j++) {
                x[j] = m.tensors.at(embed, token, j);
            }
            for (int l = 0; l < m.facts[LAYERS]; l++) {
                int parts = FIRST_LAYER + l * LAYER_PARTS;
                attend(m, l, parts);
                feed(m, parts);
            }
            normalise(m, LAST_NORM);
            m.tensors.multiply(OUT, y, logits, 0);
            steps++;
            return steps - 1;
        }

        private void normalise(Model m, int part) {
            int dim = m.facts[DIM];
            int t = m.tensors.needed[part];
            float sum = 0f;
            for (int j = 0; j < dim; j++) {
                sum = sum + x[j] * x[j];
            }
            float r = 1f / root(sum / (float) dim + m.eps);
            for (int j = 0; j < dim; j++) {
                y[j] = x[j] * r * m.tensors.at(t, 0, j);
            }
        }

        // The POSITIONS share ctx places in turn: each takes the place of the one that is forgotten.
        private static int placeOf(Model m, int position) {
            return position % m.facts[CTX] * SIDE_MOST;
        }

        private void attend(Model m, int l, int parts) {
            int here = placeOf(m, steps);
            normalise(m, parts + A);
            m.tensors.multiply(parts + Q, y, q, 0);
            m.tensors.multiply(parts + K, y, keys[l], here);
            m.tensors.multiply(parts + V, y, values[l], here);
            turn(m, q, 0, m.facts[HEADS]);
            turn(m, keys[l], here, m.facts[KV]);
            for (int h = 0; h < m.facts[HEADS]; h++) {
                int own = h * m.headSize;
                int shared = h / m.sharers * m.headSize;
                float sum = weighHead(m, keys[l], own, shared);
                mixHead(m, values[l], own, shared, sum);
            }
            m.tensors.addProducts(parts + O, w, x);
        }

        private void turn(Model m, float[] row, int start, int heads) {
            int size = m.headSize;
            float f = 4f;
            for (int i = 0; i < size / 2; i++) {
                float angle = (float) steps / f;
                float c = (1f - angle * angle) / (1f + angle * angle);
                float s = (angle + angle) / (1f + angle * angle);
                for (int h = 0; h < heads; h++) {
                    int at = start + h * size + 2 * i;
                    float a = row[at];
                    float b = row[at + 1];
                    row[at] = a * c - b * s;
                    row[at + 1] = a * s + b * c;
                }
                f = f * m.base;
            }
        }

        private int earliest(Model m) {
            return Math.max(0, steps - m.facts[CTX] + 1);
        }

        /** The shares become e_t for each POSITION that is REMEMBERED, the earliest first: their SUM. */
        private float weighHead(Model m, float[] row, int own, int shared) {
            int first = earliest(m);
            int count = steps - first + 1;
            float divisor = root((float) m.headSize);
            float greatest = 0f;
            for (int t = 0; t < count; t++) {
                int from = placeOf(m, first + t) + shared;
                float z = 0f;
                for (int j = 0; j < m.headSize; j++) {
                    z = z + row[from + j] * q[own + j];
                }
                shares[t] = z / divisor;
                greatest = t == 0 || shares[t] > greatest ? shares[t] : greatest;
            }
            float sum = 0f;
            for (int t = 0; t < count; t++) {
                shares[t] = exp(shares[t] - greatest);
                sum = sum + shares[t];
            }
            return sum;
        }

        private void mixHead(Model m, float[] row, int own, int shared, float sum) {
            int first = earliest(m);
            for (int j = 0; j < m.headSize; j++) {
                float mixed = 0f;
                for (int t = first; t <= steps; t++) {
                    mixed = mixed + shares[t - first] / sum * row[placeOf(m, t) + shared + j];
                }
                w[own + j] = mixed;
            }
        }

        private void feed(Model m, int parts) {
            normalise(m, parts + F);
            m.tensors.multiply(parts + G, y, g, 0);
            m.tensors.multiply(parts + U, y, u, 0);
            for (int i = 0; i < m.facts[FFN]; i++) {
                g[i] = g[i] / (1f + exp(0f - g[i])) * u[i];
            }
            m.tensors.addProducts(parts + D, g, x);
        }

        private static float root(float v) {
            float guess = (v + 1f) / 2f;
            for (int i = 0; i < 40; i++) {
                guess = (guess + v / guess) / 2f;
            }
            return guess;
        }

        static float exp(float v) {
            float held = v < -16f ? -16f : v > 16f ? 16f : v;
            float power = 1f + held / 256f;
            for (int i = 0; i < 8; i++) {
                power = power * power;
            }
            return power;
        }
    }

    /** Chooses a TOKEN from the LOGITS: the likeliest, or a drawn one. */
    private static final class Chooser {
        private final int[] order = new int[TOKENS_MOST];
        private final float[] sums = new float[TOKENS_MOST];
        private long state = 1L;

        /** The TOKENS come into order: the greatest LOGIT first, of equal ones the least TOKEN. */
        void sort(float[] logits, int count) {
            for (int i = 0; i < count; i++) {
                int at = i;
                while (at > 0 && logits[order[at - 1]] < logits[i]) {
                    order[at] = order[at - 1];
                    at--;
                }
                order[at] = i;
            }
        }

        int pick(float[] logits, int temperature, int k, int percent) {
            addUp(logits, (float) temperature / 100f, k);
            float enough = (float) percent / 100f * sums[k - 1];
            int last = firstAtLeast(enough, k);
            moveOn();
            float d = (float) (state >>> 40) / 16777216f * sums[last];
            int drawn = 0;
            while (drawn < last && sums[drawn] <= d) {
                drawn++;
            }
            return order[drawn];
        }

        private void addUp(float[] logits, float t, int k) {
            float greatest = logits[order[0]];
            float sum = 0f;
            for (int i = 0; i < k; i++) {
                sum = sum + Network.exp((logits[order[i]] - greatest) / t);
                sums[i] = sum;
            }
        }

        private int firstAtLeast(float enough, int k) {
            int last = 0;
            while (last < k - 1 && sums[last] < enough) {
                last++;
            }
            return last;
        }

        private void moveOn() {
            state = state ^ state << 13;
            state = state ^ state >>> 7;
            state = state ^ state << 17;
        }
    }

    /** The latest TOKENS that were SAID. */
    private static final class Sayings {
        private final int[] row = new int[SAID_KEPT];
        private int total = 0;

        void add(int token) {
            row[total % SAID_KEPT] = token;
            total++;
        }

        int before(int k) {
            if (k < 0 || k >= SAID_KEPT || k >= total) {
                return REFUSED;
            }
            return row[(total - 1 - k) % SAID_KEPT];
        }
    }
}
