/** Promises 1 to 4: a new object, file, flip, clear. */
public final class FileTest {
    public static void main(String[] args) {
        newObject();
        order();
        refusals();
        room();
        flips();
        clears();
        modelStays();
        Check.end();
    }

    private static void newObject() {
        TextEngine x = new TextEngine();
        Check.due("new: place()", x.place(), -1);
        Check.due("new: clear()", x.clear(), 0);
        Check.due("new: flip(0, 0)", x.flip(0, 0), -1);
        Check.due("new: fact(0)", x.fact(0), -3);
        Check.due("new: fact(12)", x.fact(12), -3);
        Check.due("new: weight(0, 0, 0)", x.weight(0, 0, 0), -3);
        Check.due("new: weight(-1, 0, 0)", x.weight(-1, 0, 0), -3);
        Check.due("new: encode()", x.encode(), -3);
        Check.due("new: token(0)", x.token(0), -1);
        Check.due("new: letter(0, 0)", x.letter(0, 0), -1);
        Check.due("new: step(0)", x.step(0), -3);
        Check.due("new: step(-1)", x.step(-1), -3);
        Check.due("new: logit(0)", x.logit(0), -3);
        Check.due("new: logit(-1)", x.logit(-1), -3);
        Check.due("new: draw(0, 1, 1)", x.draw(0, 1, 1), -3);
        Check.due("new: draw(401, 1, 1)", x.draw(401, 1, 1), -1);
        Check.due("new: say(1)", x.say(1), -3);
        Check.due("new: say(0)", x.say(0), -1);
        Check.due("new: said(0)", x.said(0), -1);
        Check.due("new: reset()", x.reset(), 0);
        Check.due("new: text of 24", new TextEngine().text(0, 8), 8);
    }

    private static void order() {
        TextEngine x = new TextEngine();
        Check.due("file of 8", x.file(0x88FF000403020100L, 8), 8);
        Check.due("file of 3", x.file(0x11223344556677FEL, 3), 11);
        Check.due("file of 1", x.file(-1L, 1), 12);
        int[] due = {0, 1, 2, 3, 4, 0, 255, 0x88, 0xFE, 0x77, 0x66, 255};
        for (int k = 0; k < due.length; k++) {
            Check.due("OCTET " + k, x.flip(k, 0), due[k]);
        }
        Check.due("OCTET 12", x.flip(12, 0), -1);
    }

    private static void refusals() {
        TextEngine x = new TextEngine();
        for (int n : new int[] {0, 9, -1, 17, Integer.MIN_VALUE, Integer.MAX_VALUE}) {
            Check.due("file(1, " + n + ")", x.file(1, n), -1);
        }
        Check.due("nothing came", x.clear(), 0);
    }

    private static void room() {
        TextEngine x = new TextEngine();
        for (int i = 1; i <= 174; i++) {
            Check.due("file", x.file(i, 8), 8 * i);
        }
        Check.due("file of 5", x.file(5, 5), 1397);
        Check.due("file of 4 where 3 are left", x.file(5, 4), -2);
        Check.due("file of 9 where 3 are left", x.file(5, 9), -1);
        Check.due("OCTET 1397 after FULL", x.flip(1397, 0), -1);
        Check.due("file of 3", x.file(0xABCDEFL, 3), 1400);
        Check.due("OCTET 1399", x.flip(1399, 0), 0xAB);
        Check.due("file where nothing is left", x.file(0, 1), -2);
        Check.due("file of 0 where nothing is left", x.file(0, 0), -1);
        Check.due("clear()", x.clear(), 1400);
        Check.due("file after clear()", x.file(0, 8), 8);
    }

    private static void flips() {
        TextEngine x = new TextEngine();
        x.file(0xF00FL, 2);
        Check.due("flip(0, 255)", x.flip(0, 255), 0xF0);
        Check.due("flip(0, 1)", x.flip(0, 1), 0xF1);
        Check.due("flip(1, 128)", x.flip(1, 128), 0x70);
        Check.due("flip(1, 0)", x.flip(1, 0), 0x70);
        Check.due("flip(2, 0)", x.flip(2, 0), -1);
        Check.due("flip(-1, 0)", x.flip(-1, 0), -1);
        Check.due("flip(MIN, 0)", x.flip(Integer.MIN_VALUE, 0), -1);
        Check.due("flip(MAX, 0)", x.flip(Integer.MAX_VALUE, 0), -1);
        Check.due("flip(0, 256)", x.flip(0, 256), -1);
        Check.due("flip(0, -1)", x.flip(0, -1), -1);
        Check.due("flip(0, 0) after refusals", x.flip(0, 0), 0xF1);
    }

    private static void clears() {
        TextEngine x = new TextEngine();
        x.file(0, 5);
        Check.due("clear()", x.clear(), 5);
        Check.due("clear() again", x.clear(), 0);
        Check.due("flip(0, 0) after clear()", x.flip(0, 0), -1);
        Check.due("load() after clear()", x.load(), 1);
        Check.due("place() after clear()", x.place(), 0);
    }

    private static void modelStays() {
        TextEngine x = Spec.loaded(Spec.plain());
        x.step(1);
        x.clear();
        Check.due("place() after clear()", x.place(), -1);
        Check.due("fact(0) after clear()", x.fact(0), 8);
        Check.due("step() after clear()", x.step(1), 1);
        Check.due("load() of nothing", x.load(), 1);
        Check.due("fact(0) after a FAULT", x.fact(0), 8);
        Check.due("step() after a FAULT", x.step(1), 2);
    }
}
