import java.util.Arrays;

/** Promise 8, weight: each sentence with its edges. */
public final class Promise08Test {
    public static void main(String[] args) {
        halves();
        fours();
        eights();
        cutTowardsZero();
        rowsAndBlocks();
        corners();
        none();
        refused();
        readsOnly();
        Check.end();
    }

    /** A sound FILE with one more TENSOR, the last: t is 12. */
    private static Spec with(int columns, int rows, int packing) {
        Spec s = Spec.sound(new int[] {8, 1, 1, 1, 8, 2}, new int[] {Spec.FOURS}, Spec.letters(2), new long[0]);
        s.tensors.add(new Spec.Tensor("more", columns, rows, packing));
        return s;
    }

    /** "bit 15 the sign .. f * 2^-24 if e is 0, (1024 + f) * 2^(e - 25) if e is 1..30", times 65536, cut. */
    private static void halves() {
        int[][] bits = {{0, 0}, {0x8000, 0}, {1, 0}, {0x03FF, 3}, {0x83FF, -3}, {0x0400, 4}, {0x8400, -4},
            {0x0401, 4}, {0x07FF, 7}, {0x3C00, 65536}, {0xBC00, -65536}, {0x3C01, 65600}, {0x3BFF, 65504},
            {0x4C00, 1048576}, {0xCC00, -1048576}, {0x4BFF, 1048064}};
        Spec s = with(16, 1, Spec.HALVES);
        for (int i = 0; i < bits.length; i++) {
            s.tensor("more").setHalf(2 * i, bits[i][0]);
        }
        TextEngine x = Spec.loaded(s);
        for (int i = 0; i < bits.length; i++) {
            Check.due("weight of HALF " + bits[i][0], x.weight(12, 0, i), bits[i][1]);
        }
    }

    /** "the weight is (n - 8) * SCALE": n from 0 to 15, the low 4 bits for column j, the high for j + 4. */
    private static void fours() {
        for (int n = 0; n < 16; n++) {
            Spec s = with(8, 1, Spec.FOURS);
            Spec.Tensor t = s.tensor("more");
            t.setHalf(0, Spec.half(-1));
            for (int j = 0; j < 4; j++) {
                t.data[2 + j] = (byte) (n | (15 - n) << 4);
            }
            TextEngine x = Spec.loaded(s);
            for (int j = 0; j < 8; j++) {
                Check.due("FOURS " + n + ", column " + j, x.weight(12, 0, j), (j < 4 ? 8 - n : n - 7) * 65536);
            }
        }
    }

    /** "each n (above 127: n less 256) for a column, the weight is n * SCALE". */
    private static void eights() {
        int[] n = {0, 1, 126, 127, 128, 129, 254, 255};
        for (double scale : new double[] {1, -1, 0.5, 0}) {
            Spec s = with(8, 1, Spec.EIGHTS);
            Spec.Tensor t = s.tensor("more");
            t.setHalf(0, Spec.half(scale));
            for (int j = 0; j < 8; j++) {
                t.data[2 + j] = (byte) n[j];
            }
            TextEngine x = Spec.loaded(s);
            for (int j = 0; j < 8; j++) {
                int signed = n[j] > 127 ? n[j] - 256 : n[j];
                Check.due("EIGHTS " + n[j], x.weight(12, 0, j), (int) (signed * scale * 65536));
            }
        }
    }

    /** "times 65536, cut": towards 0 on both sides of it. */
    private static void cutTowardsZero() {
        double unit = 1.0 / 65536;
        double[] units = {0.99609375, 1, 1.00390625, 1.99609375, 2.5, 1000.5, 0.5, 0.00390625};
        Spec s = with(8, 2, Spec.HALVES);
        for (int i = 0; i < 8; i++) {
            s.tensor("more").setHalf(2 * i, Spec.half(units[i] * unit));
            s.tensor("more").setHalf(16 + 2 * i, Spec.half(-units[i] * unit));
        }
        TextEngine x = Spec.loaded(s);
        for (int i = 0; i < 8; i++) {
            Check.due("weight of " + units[i], x.weight(12, 0, i), (int) Math.floor(units[i]));
            Check.due("weight of -" + units[i], x.weight(12, 1, i), -(int) Math.floor(units[i]));
        }
    }

    /** "PACKED are ROWS, one behind the other", "for each 8 columns .. a BLOCK". */
    private static void rowsAndBlocks() {
        Spec s = with(16, 3, Spec.EIGHTS);
        Spec.Tensor t = s.tensor("more");
        for (int block = 0; block < 6; block++) {
            t.setHalf(10 * block, Spec.half(1.0 / (1 << block)));
            Arrays.fill(t.data, 10 * block + 2, 10 * block + 10, (byte) 32);
        }
        TextEngine x = Spec.loaded(s);
        for (int row = 0; row < 3; row++) {
            for (int column = 0; column < 16; column++) {
                Check.due("BLOCK of " + row + ", " + column, x.weight(12, row, column),
                    65536 * 32 >> 2 * row + column / 8);
            }
        }
    }

    /** The first and the last TENSOR, row and column, and one more of each. */
    private static void corners() {
        Spec s = with(16, 16, Spec.HALVES);
        s.tensor("more").setHalf(0, Spec.half(1));
        s.tensor("more").setHalf(30, Spec.half(2));
        s.tensor("more").setHalf(480, Spec.half(3));
        s.tensor("more").setHalf(510, Spec.half(4));
        TextEngine x = Spec.loaded(s);
        Check.due("weight(12, 0, 0)", x.weight(12, 0, 0), 1 << 16);
        Check.due("weight(12, 0, 15)", x.weight(12, 0, 15), 2 << 16);
        Check.due("weight(12, 15, 0)", x.weight(12, 15, 0), 3 << 16);
        Check.due("weight(12, 15, 15)", x.weight(12, 15, 15), 4 << 16);
        Check.due("weight(12, 15, 16)", x.weight(12, 15, 16), -1);
        Check.due("weight(12, 16, 15)", x.weight(12, 16, 15), -1);
        Check.due("weight(13, 0, 0)", x.weight(13, 0, 0), -1);
        Check.due("weight(0, 1, 7)", x.weight(0, 1, 7), 0);
        Check.due("weight(0, 2, 0)", x.weight(0, 2, 0), -1);
        Spec one = with(1, 1, Spec.HALVES);
        one.tensor("more").setHalf(0, Spec.half(-2));
        x = Spec.loaded(one);
        Check.due("weight of the only one", x.weight(12, 0, 0), -2 << 16);
        Check.due("weight(12, 0, 1) of the only one", x.weight(12, 0, 1), -1);
        Check.due("weight(12, 1, 0) of the only one", x.weight(12, 1, 0), -1);
        Spec many = with(1, 1, Spec.HALVES);
        many.set("align", 2);
        many.align = 2;
        while (many.tensors.size() < 24) {
            Spec.Tensor t = new Spec.Tensor("t" + many.tensors.size(), 1, 1, Spec.HALVES);
            t.setHalf(0, Spec.half(many.tensors.size() - 8));
            many.tensors.add(t);
        }
        x = Spec.loaded(many);
        Check.due("weight(23, 0, 0)", x.weight(23, 0, 0), 15 << 16);
        Check.due("weight(24, 0, 0)", x.weight(24, 0, 0), -1);
    }

    /** "NONE without a MODEL", whatever is asked for. */
    private static void none() {
        for (Stage stage : new Stage[] {Stage.NEW, Stage.FAULTY}) {
            Seen.changesNothing("weight(0, 0, 0)", stage, -3, x -> x.weight(0, 0, 0));
        }
    }

    /** "REFUSED if there is none." */
    private static void refused() {
        for (int wrong : new int[] {-1, 16, 24, Integer.MIN_VALUE, Integer.MAX_VALUE}) {
            Seen.refusedOrNone("weight(" + wrong + ", 0, 0)", x -> x.weight(wrong, 0, 0));
            Seen.refusedOrNone("weight(0, " + wrong + ", 0)", x -> x.weight(0, wrong, 0));
            Seen.refusedOrNone("weight(0, 0, " + wrong + ")", x -> x.weight(0, 0, wrong));
        }
        Seen.refusedOrNone("weight(12, 0, 0)", x -> x.weight(12, 0, 0));
        Seen.refusedOrNone("weight(0, 4, 0)", x -> x.weight(0, 4, 0));
        Seen.refusedOrNone("weight(1, 1, 0)", x -> x.weight(1, 1, 0));
        Seen.refusedOrNone("weight(0, 0, 8)", x -> x.weight(0, 0, 8));
    }

    private static void readsOnly() {
        int due = Stage.LOADED.make().weight(2, 1, 3);
        Check.holds("it is not 0", due != 0);
        Seen.changesNothing("weight(2, 1, 3)", Stage.RUNNING, due, x -> x.weight(2, 1, 3));
    }
}
