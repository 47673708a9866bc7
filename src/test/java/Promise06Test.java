import java.util.Arrays;

/** Promise 6, place: each sentence with its edges. */
public final class Promise06Test {
    public static void main(String[] args) {
        ofNumbers();
        ofCounts();
        ofStrings();
        ofMagic();
        ofColumns();
        noneForOthers();
        ofTheLatest();
        staysBetweenLoads();
        Check.end();
    }

    private static void due(String what, int fault, int place, int tensors, int pairs, int... more) {
        int[] head = {71, 71, 85, 70, 3, 0, 0, 0, tensors, pairs};
        int[] all = Arrays.copyOf(head, head.length + more.length);
        System.arraycopy(more, 0, all, head.length, more.length);
        TextEngine x = new TextEngine();
        for (int octet : all) {
            x.file(octet, 1);
        }
        Check.due(what + ": load()", x.load(), fault);
        Check.due(what + ": place()", x.place(), place);
    }

    /** "the place of the first OCTET of the number": also where none of its OCTETS is there. */
    private static void ofNumbers() {
        due("TYPE", 5, 12, 0, 1, 1, 65, 4);
        due("TYPE that is not there", 1, 12, 0, 1, 1, 65);
        due("NUMBER that is not there", 1, 13, 0, 1, 1, 65, 0);
        due("NUMBER of one OCTET", 1, 13, 0, 1, 1, 65, 0, 9);
        due("NUMBER of three", 1, 13, 0, 1, 1, 65, 0, 9, 9, 9);
        due("REAL of one", 1, 13, 0, 1, 1, 65, 1, 9);
        due("TYPE in an ARRAY", 5, 13, 0, 1, 1, 65, 3, 4);
        due("TYPE in two", 5, 15, 0, 1, 1, 65, 3, 3, 1, 4);
        due("DEEP", 6, 17, 0, 1, 1, 65, 3, 3, 1, 3, 1, 3);
        due("DEEP in the second PAIR", 6, 25, 0, 2, 2, 65, 65, 0, 1, 2, 3, 4, 1, 65, 3, 3, 1, 3, 1, 3);
        due("second NUMBER of an ARRAY", 1, 19, 0, 1, 1, 65, 3, 0, 2, 1, 2, 3, 4, 5);
        due("sides", 4, 12, 1, 0, 1, 65, 3);
        due("ROWS", 4, 14, 1, 0, 1, 65, 2, 16, 17);
        due("PACKING", 5, 14, 1, 0, 1, 65, 1, 16, 3);
        due("PACKING behind ROWS", 5, 15, 1, 0, 1, 65, 2, 16, 1, 3);
        due("OFFSET of one", 1, 15, 1, 0, 1, 65, 1, 16, 1, 0);
    }

    /** "(of a count: its own". */
    private static void ofCounts() {
        due("TENSORS", 4, 8, 25, 0);
        due("PAIRS", 4, 9, 0, 25);
        due("both", 4, 8, 255, 255);
        due("COUNT", 4, 14, 0, 1, 1, 65, 3, 0, 25);
        due("COUNT in an ARRAY", 4, 16, 0, 1, 1, 65, 3, 3, 1, 2, 25);
        due("COUNT in two", 4, 18, 0, 1, 1, 65, 3, 3, 1, 3, 1, 1, 25);
        due("COUNT that is not there", 1, 14, 0, 1, 1, 65, 3, 0);
    }

    /** "a STRING begins with its u1", also where it is TWICE. */
    private static void ofStrings() {
        due("KEY that is not there", 1, 10, 0, 1);
        due("KEY whose OCTETS are not there", 1, 10, 0, 1, 3, 65, 66);
        due("empty KEY", 4, 10, 0, 1, 0);
        due("KEY of 17", 4, 10, 0, 1, 17, 1, 2, 3, 4, 5, 6, 7, 8, 9, 10, 11, 12, 13, 14, 15, 16, 17);
        due("KEY twice", 7, 16, 0, 2, 3, 65, 66, 67, 2, 0, 3, 65, 66, 67);
        due("NAME twice", 7, 17, 2, 0, 1, 65, 1, 8, 0, 0, 0, 1, 65);
        due("empty NAME behind a PAIR", 4, 14, 1, 1, 1, 65, 2, 0, 0);
        due("TEXT whose OCTETS are not there", 1, 13, 0, 1, 1, 65, 2, 4, 1, 2, 3);
        due("second TEXT of an ARRAY", 1, 17, 0, 1, 1, 65, 3, 2, 2, 1, 9, 2, 9);
        due("TEXT of 17 in an ARRAY", 4, 15, 0, 1, 1, 65, 3, 2, 1, 17, 1, 2, 3, 4, 5, 6, 7, 8, 9, 10, 11, 12,
            13, 14, 15, 16, 17);
    }

    /** "or magic where it was found": whichever of its OCTETS is another. */
    private static void ofMagic() {
        for (int k = 0; k < 4; k++) {
            TextEngine x = Stage.LOADED.make();
            x.flip(k, 128);
            Check.due("load() with OCTET " + k + " changed", x.load(), 2);
            Check.due("place() with OCTET " + k + " changed", x.place(), 0);
        }
        for (int k = 4; k < 8; k++) {
            TextEngine x = Stage.LOADED.make();
            x.flip(k, 128);
            Check.due("load() with OCTET " + k + " changed", x.load(), 3);
            Check.due("place() with OCTET " + k + " changed", x.place(), 4);
        }
    }

    /** "COLUMNS that are no multiple of 8: theirs)". */
    private static void ofColumns() {
        due("COLUMNS of FOURS", 4, 13, 1, 0, 1, 65, 1, 7, 1, 0, 0);
        due("COLUMNS of FOURS with ROWS", 4, 13, 1, 0, 1, 65, 2, 9, 1, 1, 0, 0);
        due("COLUMNS of EIGHTS with ROWS", 4, 15, 1, 0, 3, 65, 66, 67, 2, 15, 16, 2, 0, 0);
        due("COLUMNS of the second", 4, 20, 2, 0, 1, 65, 1, 8, 1, 0, 0, 1, 66, 1, 4, 2);
        due("COLUMNS out of range", 4, 13, 1, 0, 1, 65, 2, 24, 1, 1, 0, 0);
    }

    private static int placeOf(Spec s, int fault) {
        TextEngine x = new TextEngine();
        Check.due("load() of nothing", x.load(), 1);
        Check.due("place() of nothing", x.place(), 0);
        Spec.feed(x, s.build());
        Check.due("load()", x.load(), fault);
        return x.place();
    }

    /** "-1 for others, and if there was none." */
    private static void noneForOthers() {
        Check.due("place() without load()", new TextEngine().place(), -1);
        TextEngine fed = Spec.engine(Stage.spec().build());
        Check.due("place() before load()", fed.place(), -1);
        Check.due("place() of no FAULT", placeOf(Spec.plain(), 0), -1);
        Spec missing = Spec.plain();
        missing.pairs.remove(missing.pair("dim"));
        Check.due("place() of FAULT 8", placeOf(missing, 8), -1);
        Check.due("place() of FAULT 9", placeOf(Spec.plain().set("dim", 9), 9), -1);
        Check.due("place() of FAULT 10", placeOf(Spec.plain().set("dim", 16), 10), -1);
        Spec place = Spec.plain();
        place.tensor("a0").offset = 0;
        place.tensor("f0").offset = 0;
        Check.due("place() of FAULT 11", placeOf(place, 11), -1);
        Spec weight = Spec.plain();
        weight.tensor("a0").setHalf(0, 0x7C00);
        Check.due("place() of FAULT 12", placeOf(weight, 12), -1);
    }

    /** "Of the latest load()": each one answers anew. */
    private static void ofTheLatest() {
        TextEngine x = Stage.LOADED.make();
        int[][] rows = {{9, 64, 4, 9}, {4, 8, 3, 4}, {0, 0, 0, -1}, {8, 32, 4, 8}, {3, 1, 2, 0}, {0, 0, 0, -1}};
        for (int[] row : rows) {
            x.flip(row[0], row[1]);
            Check.due("load()", x.load(), row[2]);
            Check.due("place()", x.place(), row[3]);
            Check.due("place() again", x.place(), row[3]);
            x.flip(row[0], row[1]);
        }
    }

    private static void staysBetweenLoads() {
        TextEngine x = Stage.RUNNING.make();
        x.flip(9, 64);
        Check.due("load()", x.load(), 4);
        x.flip(9, 64);
        Check.due("place() behind flip()", x.place(), 9);
        x.step(0);
        x.say(1);
        x.encode();
        Check.due("place() behind step() and say()", x.place(), 9);
        x.reset();
        Check.due("place() behind reset()", x.place(), 9);
        x.clear();
        Check.due("place() behind clear()", x.place(), 9);
        x.file(71, 1);
        Check.due("place() behind file()", x.place(), 9);
        for (Stage stage : Stage.values()) {
            Seen.changesNothing("place()", stage, stage == Stage.FAULTY ? 8 : -1, TextEngine::place);
        }
    }
}
