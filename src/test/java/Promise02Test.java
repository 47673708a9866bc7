/** Promise 2, file: each sentence with its edges. */
public final class Promise02Test {
    public static void main(String[] args) {
        lowestFirst();
        countsOfOctets();
        refused();
        fullAtEachSize();
        refusedBeforeFull();
        fullChangesNothing();
        onlyTheFile();
        greatestSoundFile();
        Check.end();
    }

    /** "The n (1..8) lowest OCTETS of w, the lowest first, come to the FILE". */
    private static void lowestFirst() {
        long w = 0x80FF7F0100FEDC12L;
        int[] octets = {0x12, 0xDC, 0xFE, 0, 1, 0x7F, 0xFF, 0x80};
        for (int n = 1; n <= 8; n++) {
            TextEngine x = new TextEngine();
            Check.due("file(w, " + n + ")", x.file(w, n), n);
            for (int k = 0; k < n; k++) {
                Check.due("OCTET " + k + " of " + n, x.flip(k, 0), octets[k]);
            }
            Check.due("no OCTET " + n, x.flip(n, 0), -1);
            Check.due("file(0, 1) behind them", x.file(0, 1), n + 1);
            Check.due("OCTET " + n + " behind them", x.flip(n, 0), 0);
        }
        TextEngine x = new TextEngine();
        x.file(-1L, 8);
        x.file(Long.MIN_VALUE, 8);
        for (int k = 0; k < 16; k++) {
            Check.due("OCTET " + k, x.flip(k, 0), k < 8 ? 255 : k < 15 ? 0 : 128);
        }
    }

    /** ": how many it has." */
    private static void countsOfOctets() {
        TextEngine x = new TextEngine();
        int size = 0;
        for (int i = 0; i < 40; i++) {
            int n = 1 + i % 8;
            size += n;
            Check.due("file(i, " + n + ")", x.file(i, n), size);
        }
        Check.due("clear()", x.clear(), size);
    }

    /** "REFUSED if n is not 1..8". */
    private static void refused() {
        for (int n : new int[] {0, 9, -1, -8, 16, 64, Integer.MIN_VALUE, Integer.MAX_VALUE}) {
            Seen.refusedEverywhere("file(5, " + n + ")", -1, x -> x.file(5, n));
        }
    }

    private static TextEngine withOctets(int size) {
        TextEngine x = new TextEngine();
        for (int at = 0; at < size; at += 8) {
            x.file(0, Math.min(8, size - at));
        }
        return x;
    }

    /** "FULL if it would have more than 1400": with n OCTETS left n have room, with n - 1 they have none. */
    private static void fullAtEachSize() {
        for (int n = 1; n <= 8; n++) {
            TextEngine x = withOctets(1400 - n);
            Check.due("file(-1, " + n + ") with as many left", x.file(-1, n), 1400);
            Check.due("OCTET 1399", x.flip(1399, 0), 255);
            Check.due("file(-1, 1) with none left", x.file(-1, 1), -2);
            x = withOctets(1401 - n);
            Check.due("file(-1, " + n + ") with one less left", x.file(-1, n), -2);
            Check.due("clear() behind FULL", x.clear(), 1401 - n);
            Check.due("file(-1, " + n + ") behind clear()", x.file(-1, n), n);
        }
    }

    private static void refusedBeforeFull() {
        TextEngine x = withOctets(1400);
        Check.due("file(0, 0) with none left", x.file(0, 0), -1);
        Check.due("file(0, 9) with none left", x.file(0, 9), -1);
        Check.due("file(0, MAX) with none left", x.file(0, Integer.MAX_VALUE), -1);
        Check.due("file(0, 8) with none left", x.file(0, 8), -2);
    }

    private static void fullChangesNothing() {
        for (int n = 1; n <= 8; n++) {
            int many = n;
            Seen.changesNothing("file(7, " + n + ")", Stage.CROWDED, -2, x -> x.file(7, many));
        }
        TextEngine x = withOctets(1398);
        Check.due("file of 3 with 2 left", x.file(-1, 3), -2);
        Check.due("no OCTET of it came", x.flip(1398, 0), -1);
        Check.due("file of 2 with 2 left", x.file(0x0201, 2), 1400);
        Check.due("OCTET 1398", x.flip(1398, 0), 1);
        Check.due("OCTET 1399", x.flip(1399, 0), 2);
    }

    private static void onlyTheFile() {
        for (Stage stage : new Stage[] {Stage.NEW, Stage.FAULTY, Stage.LOADED, Stage.RUNNING, Stage.LAST}) {
            int size = stage == Stage.NEW ? 0 : Stage.sizeOfFile();
            Seen.changesOnly("file(7, 8)", stage, size + 8, x -> x.file(7, 8), Seen.Part.FILE);
        }
    }

    /** "THE FILE has at most 1400": with DATA up to the last OCTET it is sound. */
    private static void greatestSoundFile() {
        Spec s = Spec.plain().set("align", 1);
        s.align = 1;
        Spec.Tensor last = new Spec.Tensor("last", 8, 1, Spec.HALVES);
        last.fillHalves(0, 0, 0, 0, 0, 0, 0, 16);
        s.tensors.add(last);
        last.offset = 1400 - s.build().length + last.offset;
        byte[] octets = s.build();
        Check.due("OCTETS of the greatest FILE", octets.length, 1400);
        TextEngine x = Spec.engine(octets);
        Check.due("load() of the greatest FILE", x.load(), 0);
        Check.due("its last weight", x.weight(12, 0, 7), 16 << 16);
        Check.due("flip(1399, 0)", x.flip(1399, 0), octets[1399] & 255);
        Check.due("clear()", x.clear(), 1400);
    }
}
