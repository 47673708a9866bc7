import java.util.ArrayList;
import java.util.Arrays;
import java.util.EnumMap;
import java.util.EnumSet;
import java.util.List;
import java.util.Map;
import java.util.Set;

/**
 * All that can be seen of an object: the answers of a fixed row of calls, some 160, which use it up.
 * Two objects with the same past, of which one got a call that must change nothing, answer alike.
 */
final class Seen {
    enum Part { PLACE, MODEL, TOKENS, SAID, LOGITS, SEED, TEXT, STEPS, FILE }

    /** A call with its answer. */
    interface Call {
        int on(TextEngine x);
    }

    private final Map<Part, List<Integer>> answers = new EnumMap<>(Part.class);
    private final TextEngine x;

    Seen(TextEngine x) {
        this.x = x;
        place();
        model();
        tokens(Part.TOKENS);
        said();
        logits(Part.LOGITS);
        seed();
        text();
        steps();
        file();
    }

    private void add(Part part, int answer) {
        answers.computeIfAbsent(part, p -> new ArrayList<>()).add(answer);
    }

    private void place() {
        add(Part.PLACE, x.place());
    }

    private void model() {
        for (int what = 0; what < 12; what++) {
            add(Part.MODEL, x.fact(what));
            add(Part.MODEL, x.weight(what, 0, 5));
        }
        for (int token = 0; token < 4; token++) {
            add(Part.MODEL, x.letter(token, 0));
            add(Part.MODEL, x.letter(token, 1));
        }
    }

    private void tokens(Part part) {
        for (int k = 0; k < 24; k++) {
            add(part, x.token(k));
        }
    }

    private void said() {
        for (int k = 0; k < 33; k++) {
            add(Part.SAID, x.said(k));
        }
    }

    private void logits(Part part) {
        for (int k = 0; k < 4; k++) {
            add(part, x.logit(k));
        }
    }

    private void seed() {
        add(Part.LOGITS, x.draw(0, 16, 100));
        for (int i = 0; i < 8; i++) {
            add(Part.SEED, x.draw(400, 16, 100));
        }
    }

    private void text() {
        add(Part.TEXT, x.text('b', 1));
        add(Part.TEXT, x.encode());
        tokens(Part.TEXT);
    }

    private void steps() {
        add(Part.STEPS, x.step(1));
        logits(Part.STEPS);
        add(Part.STEPS, x.say(2));
        add(Part.STEPS, x.said(0));
        add(Part.STEPS, x.reset());
    }

    private void file() {
        for (int k : new int[] {0, 4, 8, 9, 10, 50, 200, 1399}) {
            add(Part.FILE, x.flip(k, 0));
        }
        add(Part.FILE, x.load());
        add(Part.FILE, x.place());
        add(Part.FILE, x.clear());
    }

    /** The call answers as due, and of all that can be seen only the given parts may differ. */
    static void changesOnly(String what, Stage stage, int due, Call call, Part... may) {
        TextEngine touched = stage.make();
        String where = what + " in stage " + stage;
        Check.due(where, call.on(touched), due);
        Seen before = new Seen(stage.make());
        Seen behind = new Seen(touched);
        Set<Part> free = EnumSet.noneOf(Part.class);
        free.addAll(Arrays.asList(may));
        for (Part part : Part.values()) {
            if (!free.contains(part)) {
                Check.holds(where + " leaves " + part + ", but " + before.answers.get(part) + " became "
                    + behind.answers.get(part), before.answers.get(part).equals(behind.answers.get(part)));
            }
        }
    }

    static void changesNothing(String what, Stage stage, int due, Call call) {
        changesOnly(what, stage, due, call);
    }

    /** In each stage the call is refused like this, and changes nothing. */
    static void refusedEverywhere(String what, int due, Call call) {
        for (Stage stage : Stage.values()) {
            changesNothing(what, stage, due, call);
        }
    }

    /** Without a MODEL the call is NONE, else REFUSED, and changes nothing. */
    static void refusedOrNone(String what, Call call) {
        for (Stage stage : Stage.values()) {
            changesNothing(what, stage, stage.hasModel ? TextEngine.REFUSED : TextEngine.NONE, call);
        }
    }
}
