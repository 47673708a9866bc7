/** Promise 4, clear: each sentence with its edges. */
public final class Promise04Test {
    public static void main(String[] args) {
        counts();
        empties();
        modelStays();
        fillsAgain();
        Check.end();
    }

    /** ": how many OCTETS it had." */
    private static void counts() {
        TextEngine x = new TextEngine();
        Check.due("clear() of nothing", x.clear(), 0);
        x.file(0, 1);
        Check.due("clear() of 1", x.clear(), 1);
        Check.due("clear() again", x.clear(), 0);
        Check.due("clear() of a full FILE", Stage.CROWDED.make().clear(), 1400);
        Check.due("clear() behind a sound load()", Stage.LOADED.make().clear(), Stage.sizeOfFile());
        Check.due("clear() behind a FAULT", Stage.FAULTY.make().clear(), Stage.sizeOfFile());
    }

    /** "The FILE is empty". */
    private static void empties() {
        TextEngine x = Stage.LOADED.make();
        x.clear();
        Check.due("flip(0, 0)", x.flip(0, 0), -1);
        Check.due("load()", x.load(), 1);
        Check.due("place()", x.place(), 0);
        Check.due("file(71, 1)", x.file(71, 1), 1);
        Check.due("load() of one OCTET", x.load(), 1);
        Check.due("place() in one OCTET", x.place(), 0);
    }

    /** "(The MODEL stays.)" And so does all else, the place of a FAULT too. */
    private static void modelStays() {
        for (Stage stage : Stage.values()) {
            int had = stage == Stage.NEW ? 0 : stage == Stage.CROWDED ? 1400 : Stage.sizeOfFile();
            Seen.changesOnly("clear()", stage, had, TextEngine::clear, Seen.Part.FILE);
        }
        Seen.changesNothing("clear()", Stage.NEW, 0, TextEngine::clear);
    }

    private static void fillsAgain() {
        TextEngine x = new TextEngine();
        for (int round = 0; round < 2; round++) {
            for (int at = 8; at <= 1400; at += 8) {
                Check.due("file(" + round + ", 8)", x.file(round, 8), at);
            }
            Check.due("file(0, 1) with none left", x.file(0, 1), -2);
            Check.due("flip(1392, 0)", x.flip(1392, 0), round);
            Check.due("clear()", x.clear(), 1400);
        }
    }
}
