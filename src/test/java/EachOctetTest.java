import java.util.Arrays;
import java.util.Random;

/** Each OCTET of a FILE before the DATA, with each value it can have: FAULT and place are the Oracle's. */
public final class EachOctetTest {
    // A FILE of some 600 OCTETS is fed, and four calls for each value stay within 512.
    private static final int VALUES_AT_ONCE = 64;

    public static void main(String[] args) {
        Spec s = Spec.sound(new int[] {8, 2, 1, 1, 8, 4}, new int[] {Spec.FOURS},
            new String[] {"a", "b", "ab", "c"}, new long[] {0, 1, 0, 1});
        s.fill(new Random(8), 1).set("align", 4);
        s.align = 4;
        s.set("more", Spec.ARRAY, Spec.array(Spec.ARRAY, Spec.array(Spec.ARRAY,
            Spec.array(Spec.REAL, Spec.real(3)), Spec.texts("xy", ""))));
        s.tensors.add(new Spec.Tensor("n", 7, 2, Spec.HALVES));
        byte[] octets = s.build();
        int[] met = new int[13];
        for (int k = 0; k < s.dataAt; k++) {
            for (int from = 0; from < 256; from += VALUES_AT_ONCE) {
                eachValue(octets, k, from, met);
                // Without DATA a STRING that grows reaches beyond the FILE sooner.
                eachValue(Arrays.copyOf(octets, s.dataAt), k, from, met);
            }
        }
        for (int fault = 0; fault <= 12; fault++) {
            // No single OCTET makes DATA that are none.
            Check.holds("FAULT " + fault + " was met", met[fault] > 0 || fault == 12);
        }
        Check.end();
    }

    private static void eachValue(byte[] octets, int k, int from, int[] met) {
        TextEngine x = Spec.engine(octets);
        Oracle o = new Oracle();
        for (byte octet : octets) {
            o.file(octet, 1);
        }
        for (int bits = from; bits < from + VALUES_AT_ONCE; bits++) {
            x.flip(k, bits);
            o.flip(k, bits);
            int fault = o.load();
            met[fault]++;
            Check.due("load() with OCTET " + k + " changed by " + bits, x.load(), fault);
            Check.due("place() with OCTET " + k + " changed by " + bits, x.place(), o.place());
            x.flip(k, bits);
            o.flip(k, bits);
        }
    }
}
