/** Promises 7, 8 and 12: fact, weight, letter. */
public final class ModelTest {
    public static void main(String[] args) {
        facts();
        halves();
        fours();
        eights();
        places();
        weightRefusals();
        letters();
        modelIsACopy();
        Check.end();
    }

    private static void dueFacts(TextEngine x, int... due) {
        for (int what = 0; what < due.length; what++) {
            Check.due("fact(" + what + ")", x.fact(what), due[what]);
        }
    }

    private static void facts() {
        TextEngine x = Spec.loaded(Spec.plain().set("stop", 3));
        dueFacts(x, 8, 2, 1, 1, 8, 4, 4, 1, 3, 11, 12, 8);
        Check.due("fact(12)", x.fact(12), -1);
        Check.due("fact(-1)", x.fact(-1), -1);
        Check.due("fact(MAX)", x.fact(Integer.MAX_VALUE), -1);
        Check.due("fact(MIN)", x.fact(Integer.MIN_VALUE), -1);
        Spec s = Spec.sound(new int[] {8, 4, 2, 2, 16, 7}, new int[] {Spec.FOURS},
            new String[] {"x", "y", "xy", "yx", "xyx"}, new long[] {0, 1, 1, 0, 2, 0});
        s.align = 2;
        s.set("align", 2).set("stop", 4).set("other", Spec.TEXT, Spec.string("of no use"));
        s.tensors.add(new Spec.Tensor("other", 5, 2, Spec.HALVES));
        x.clear();
        Spec.feed(x, s.build());
        Check.due("load()", x.load(), 0);
        dueFacts(x, 8, 4, 2, 2, 16, 7, 5, 3, 4, 13, 22, 2);
        Spec wide = Spec.sound(new int[] {16, 1, 1, 1, 8, 8}, new int[] {Spec.FOURS},
            new String[] {"x", "y"}, new long[0]);
        dueFacts(Spec.loaded(wide), 16, 1, 1, 1, 8, 8, 2, 0, 0, 11, 12, 8);
    }

    private static void halves() {
        Spec s = Spec.plain();
        double tiny = Math.pow(2, -24);
        s.tensor("embed").fillHalves(16, -16, 0.5, -0.25, 1023 * tiny, -1023 * tiny, tiny, -tiny, 1, 2,
            3, 1.0009765625, 1024 * tiny, 15.9921875, 255 * tiny, -257 * tiny);
        TextEngine x = Spec.loaded(s);
        int[] due = {1048576, -1048576, 32768, -16384, 3, -3, 0, 0};
        int[] second = {65536, 131072, 196608, 65600, 4, 1048064, 0, -1};
        for (int c = 0; c < 8; c++) {
            Check.due("weight(0, 0, " + c + ")", x.weight(0, 0, c), due[c]);
            Check.due("weight(0, 1, " + c + ")", x.weight(0, 1, c), second[c]);
        }
        s.tensor("embed").setHalf(0, 0x8000);
        Check.due("weight of a HALF that is 0 with a minus", Spec.loaded(s).weight(0, 0, 0), 0);
    }

    private static Spec packed(int packing) {
        int[] packings = new int[12];
        java.util.Arrays.fill(packings, Spec.FOURS);
        packings[1] = packing;
        return Spec.sound(new int[] {16, 4, 1, 1, 8, 2}, packings, new String[] {"a", "b"}, new long[0]);
    }

    private static void fours() {
        Spec s = packed(Spec.FOURS);
        byte[] data = s.tensor("norm").data;
        s.tensor("norm").setHalf(0, Spec.half(0.5));
        int[] octets = {0x80, 0xF1, 0x0F, 0x79};
        for (int j = 0; j < 4; j++) {
            data[2 + j] = (byte) octets[j];
            data[8 + j] = (byte) octets[j];
        }
        s.tensor("norm").setHalf(6, Spec.half(-1));
        TextEngine x = Spec.loaded(s);
        int[] n = {-8, -7, 7, 1, 0, 7, -8, -1};
        for (int j = 0; j < 8; j++) {
            Check.due("FOURS, column " + j, x.weight(1, 0, j), n[j] * 32768);
            Check.due("FOURS, column " + (8 + j), x.weight(1, 0, 8 + j), -n[j] * 65536);
        }
    }

    private static void eights() {
        Spec s = packed(Spec.EIGHTS);
        byte[] data = s.tensor("norm").data;
        s.tensor("norm").setHalf(0, Spec.half(0.25));
        s.tensor("norm").setHalf(10, Spec.half(1));
        int[] n = {0, 1, 127, -128, -1, 100, -100, 64};
        for (int j = 0; j < 8; j++) {
            data[2 + j] = (byte) n[j];
            data[12 + j] = (byte) n[7 - j];
        }
        TextEngine x = Spec.loaded(s);
        for (int j = 0; j < 8; j++) {
            Check.due("EIGHTS, column " + j, x.weight(1, 0, j), n[j] * 16384);
            Check.due("EIGHTS, column " + (8 + j), x.weight(1, 0, 8 + j), n[7 - j] * 65536);
        }
    }

    /** The DATA need not stand in the order of the INFOS, nor begin at once. */
    private static void places() {
        Spec s = Spec.plain();
        s.tensors.add(5, new Spec.Tensor("more", 3, 2, Spec.HALVES));
        s.tensors.get(5).fillHalves(1, 2, 3, 4, 5, 6);
        s.tensor("d0").offset = 8;
        s.tensor("d0").fillHalves(7);
        s.tensor("embed").fillHalves(9);
        s.pad = 77;
        TextEngine x = Spec.loaded(s);
        Check.due("more, row 0", x.weight(5, 0, 2), 3 << 16);
        Check.due("more, row 1", x.weight(5, 1, 0), 4 << 16);
        Check.due("more, the last", x.weight(5, 1, 2), 6 << 16);
        Check.due("d0", x.weight(12, 0, 0), 7 << 16);
        Check.due("embed", x.weight(0, 0, 0), 9 << 16);
    }

    private static void weightRefusals() {
        TextEngine x = Spec.loaded(Spec.plain());
        int[][] none = {{-1, 0, 0}, {12, 0, 0}, {0, -1, 0}, {0, 4, 0}, {0, 0, -1}, {0, 0, 8}, {1, 1, 0},
            {Integer.MAX_VALUE, 0, 0}, {0, Integer.MAX_VALUE, 0}, {0, 0, Integer.MIN_VALUE}, {23, 0, 0}};
        for (int[] at : none) {
            Check.due("weight at none", x.weight(at[0], at[1], at[2]), -1);
        }
        int[][] there = {{0, 3, 7}, {1, 0, 7}, {11, 7, 7}, {5, 3, 7}};
        for (int[] at : there) {
            Check.due("weight that is there", x.weight(at[0], at[1], at[2]), 0);
        }
    }

    private static void letters() {
        Spec s = Spec.sound(new int[] {8, 2, 1, 1, 8, 4}, new int[] {Spec.FOURS},
            new String[] {"a", "\u00ff\u0000\u0080b", "xyz"}, new long[0]);
        TextEngine x = Spec.loaded(s);
        int[][] due = {{'a', -1}, {255, 0, 128, 'b', -1}, {'x', 'y', 'z', -1}, {-1}};
        for (int t = 0; t < due.length; t++) {
            for (int i = 0; i < due[t].length; i++) {
                Check.due("letter(" + t + ", " + i + ")", x.letter(t, i), due[t][i]);
            }
            Check.due("letter(" + t + ", -1)", x.letter(t, -1), -1);
            Check.due("letter(" + t + ", MAX)", x.letter(t, Integer.MAX_VALUE), -1);
            Check.due("letter(" + t + ", 4)", x.letter(t, 4), -1);
        }
        Check.due("letter(-1, 0)", x.letter(-1, 0), -1);
        Check.due("letter(MIN, 0)", x.letter(Integer.MIN_VALUE, 0), -1);
        Check.due("letter(16, 0)", x.letter(16, 0), -1);
    }

    /** What happens to the FILE behind load() does not touch the MODEL, nor does a load with a FAULT. */
    private static void modelIsACopy() {
        Spec s = Spec.plain();
        s.tensor("d0").fillHalves(5);
        TextEngine x = Spec.engine(s.build());
        Check.due("load()", x.load(), 0);
        int at = s.dataAt + s.tensor("d0").offset;
        x.flip(at + 1, 0x04);
        Check.due("weight behind flip()", x.weight(11, 0, 0), 5 << 16);
        x.flip(s.infosAt - 4, 9);
        Check.due("load() with a FAULT 9", x.load(), 9);
        Check.due("weight behind a FAULT", x.weight(11, 0, 0), 5 << 16);
        Check.due("fact(8) behind a FAULT", x.fact(8), 0);
        x.flip(s.infosAt - 4, 9);
        x.flip(at + 3, 0x7C);
        Check.due("load() with a FAULT 12", x.load(), 12);
        Check.due("weight behind a FAULT 12", x.weight(11, 0, 0), 5 << 16);
        x.flip(at + 3, 0x7C);
        Check.due("load() when mended", x.load(), 0);
        Check.due("weight of the new MODEL", x.weight(11, 0, 0), 5 << 15);
    }
}
