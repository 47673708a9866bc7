import java.util.Arrays;
import java.util.Random;

/** FILES that are cut off or changed at random: FAULT and place are those that the Oracle finds. */
public final class RandomFaultTest {
    private static final int FILES = 60;
    private static final int CHANGES = 60;

    public static void main(String[] args) {
        int[] seen = new int[13];
        for (int i = 0; i < FILES; i++) {
            Random random = new Random(1000 + i);
            Spec s = RandomRunTest.randomSpec(random);
            byte[] octets = s.build();
            if (octets.length > 1400) {
                continue;
            }
            for (int j = 0; j < CHANGES; j++) {
                seen[compare(changed(octets, s.infosAt, s.dataAt, random), i)]++;
            }
            cutEverywhere(octets, s.dataAt, i);
        }
        for (int fault = 0; fault < seen.length; fault++) {
            // DEEP and TWICE hardly ever come by chance: FaultTest has them.
            Check.holds("FAULT " + fault + " was met", seen[fault] > 0 || fault == 6 || fault == 7);
        }
        Check.end();
    }

    private static byte[] changed(byte[] octets, int infosAt, int dataAt, Random random) {
        byte[] all = octets.clone();
        int many = 1 + random.nextInt(2);
        for (int i = 0; i < many; i++) {
            int from = random.nextInt(4);
            int end = from == 0 ? 10 : from == 1 ? infosAt : from == 2 ? dataAt : all.length;
            int k = random.nextInt(end);
            all[k] ^= random.nextBoolean() ? 1 << random.nextInt(8) : random.nextInt(256);
        }
        int size = random.nextInt(8) == 0 ? random.nextInt(all.length) : all.length;
        return Arrays.copyOf(all, size);
    }

    private static int compare(byte[] octets, int file) {
        TextEngine x = Spec.engine(octets);
        Oracle o = new Oracle();
        for (byte octet : octets) {
            o.file(octet, 1);
        }
        int fault = o.load();
        Check.due("load() of a changed FILE " + file, x.load(), fault);
        Check.due("place() for a changed FILE " + file, x.place(), o.place());
        return fault;
    }

    private static void cutEverywhere(byte[] octets, int dataAt, int file) {
        for (int n = 0; n < dataAt; n += 3) {
            compare(Arrays.copyOf(octets, n), file);
        }
    }
}
