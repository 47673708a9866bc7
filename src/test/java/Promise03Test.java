/** Promise 3, flip: each sentence with its edges. */
public final class Promise03Test {
    public static void main(String[] args) {
        exclusiveOr();
        bounds();
        lastOfAFullFile();
        refused();
        behindClear();
        onlyThisOctet();
        onlyTheFile();
        Check.end();
    }

    /** "OCTET k of the FILE is changed by exclusive or with x (0..255): what it is then." */
    private static void exclusiveOr() {
        for (int octet : new int[] {0, 1, 127, 128, 255}) {
            TextEngine x = new TextEngine();
            x.file(octet, 1);
            int now = octet;
            for (int with : new int[] {0, 255, 255, 1, 128, 170, 85, 0}) {
                now ^= with;
                Check.due("flip(0, " + with + ")", x.flip(0, with), now);
            }
        }
    }

    /** The first and the last OCTET, and x from 0 to 255. */
    private static void bounds() {
        TextEngine x = new TextEngine();
        x.file(0x030201, 3);
        Check.due("flip(0, 0)", x.flip(0, 0), 1);
        Check.due("flip(0, 255)", x.flip(0, 255), 254);
        Check.due("flip(2, 0)", x.flip(2, 0), 3);
        Check.due("flip(2, 255)", x.flip(2, 255), 252);
        Check.due("flip(3, 0)", x.flip(3, 0), -1);
        x.file(9, 1);
        Check.due("flip(3, 0) when it is there", x.flip(3, 0), 9);
        Check.due("flip(4, 0)", x.flip(4, 0), -1);
    }

    private static void lastOfAFullFile() {
        TextEngine x = Stage.CROWDED.make();
        Check.due("flip(1399, 0)", x.flip(1399, 0), 8 - (1399 - Stage.sizeOfFile()) % 8);
        Check.due("flip(1400, 0)", x.flip(1400, 0), -1);
    }

    /** "REFUSED if a number is out of range." */
    private static void refused() {
        int[] wrong = {-1, 256, 257, -256, Integer.MIN_VALUE, Integer.MAX_VALUE};
        for (int with : wrong) {
            Seen.refusedEverywhere("flip(0, " + with + ")", -1, x -> x.flip(0, with));
            Seen.refusedEverywhere("flip(-1, " + with + ")", -1, x -> x.flip(-1, with));
        }
        for (int k : new int[] {-1, 1400, Integer.MIN_VALUE, Integer.MAX_VALUE}) {
            Seen.refusedEverywhere("flip(" + k + ", 1)", -1, x -> x.flip(k, 1));
        }
        int size = Stage.sizeOfFile();
        for (Stage stage : new Stage[] {Stage.FAULTY, Stage.LOADED, Stage.RUNNING, Stage.LAST}) {
            Seen.changesNothing("flip(size, 1)", stage, -1, x -> x.flip(size, 1));
        }
        Seen.changesNothing("flip(0, 1)", Stage.NEW, -1, x -> x.flip(0, 1));
    }

    private static void behindClear() {
        TextEngine x = new TextEngine();
        x.file(-1, 8);
        x.clear();
        Check.due("flip(0, 0) behind clear()", x.flip(0, 0), -1);
        x.file(0x2A, 1);
        Check.due("flip(0, 0) of the new FILE", x.flip(0, 0), 0x2A);
        Check.due("flip(1, 0) of the new FILE", x.flip(1, 0), -1);
    }

    private static void onlyThisOctet() {
        TextEngine x = new TextEngine();
        x.file(0x0706050403020100L, 8);
        Check.due("flip(4, 255)", x.flip(4, 255), 251);
        for (int k = 0; k < 8; k++) {
            Check.due("OCTET " + k, x.flip(k, 0), k == 4 ? 251 : k);
        }
        Check.due("clear()", x.clear(), 8);
    }

    private static void onlyTheFile() {
        for (Stage stage : new Stage[] {Stage.LOADED, Stage.RUNNING, Stage.LAST, Stage.CROWDED}) {
            Seen.changesOnly("flip(0, 1)", stage, 70, x -> x.flip(0, 1), Seen.Part.FILE);
            Seen.changesNothing("flip(0, 0)", stage, 71, x -> x.flip(0, 0));
        }
    }
}
