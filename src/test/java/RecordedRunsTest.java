import java.io.IOException;
import java.nio.charset.StandardCharsets;
import java.nio.file.Files;
import java.nio.file.Path;
import java.util.Arrays;
import java.util.HashSet;
import java.util.Set;

/**
 * Runs whose answers come from a transcription of the document that shares no code and no language
 * with the program or the Oracle: a line is a call and the answer that is due.
 */
public final class RecordedRunsTest {
    private static final Path RUNS = Path.of("src", "test", "data", "runs.txt");
    private static final int CALLS_MOST = 512;

    private final Set<String> called = new HashSet<>();
    private final Set<Long> faults = new HashSet<>();
    private TextEngine x = null;
    private int calls = 0;
    private int line = 0;

    public static void main(String[] args) throws IOException {
        RecordedRunsTest test = new RecordedRunsTest();
        for (String row : Files.readAllLines(RUNS, StandardCharsets.US_ASCII)) {
            test.replay(row);
        }
        Check.due("calls of the face in the runs", test.called.size(), 18);
        Check.due("answers of load() in the runs", test.faults.size(), 13);
        Check.end();
    }

    private void replay(String row) {
        line++;
        if (row.equals("new")) {
            x = new TextEngine();
            calls = 0;
            return;
        }
        String[] sides = row.split(" = ");
        String[] words = sides[0].split(" ");
        if (words[0].equals("octets")) {
            feed(words[1], Long.parseLong(sides[1]));
            return;
        }
        long[] v = Arrays.stream(words).skip(1).mapToLong(Long::parseLong).toArray();
        count(words[0]);
        if (words[0].equals("seed")) {
            x.seed(v[0]);
            return;
        }
        long want = Long.parseLong(sides[1]);
        if (words[0].equals("load")) {
            faults.add(want);
        }
        Check.due(RUNS + " line " + line + ": " + sides[0], answer(words[0], v), want);
    }

    private void count(String call) {
        called.add(call);
        calls++;
        Check.holds("line " + line + " is within the calls of an object", calls <= CALLS_MOST);
    }

    /** Eight OCTETS a call, the last ones together; the answer of the last call is due. */
    private void feed(String hex, long want) {
        int got = 0;
        for (int at = 0; at < hex.length(); at += 16) {
            int n = Math.min(16, hex.length() - at) / 2;
            long w = 0;
            for (int i = 0; i < n; i++) {
                w |= Long.parseLong(hex.substring(at + 2 * i, at + 2 * i + 2), 16) << (8 * i);
            }
            count("file");
            got = x.file(w, n);
        }
        Check.due(RUNS + " line " + line + ": the last file()", got, want);
    }

    private long answer(String call, long[] v) {
        switch (call) {
            case "file":
                return x.file(v[0], (int) v[1]);
            case "flip":
                return x.flip((int) v[0], (int) v[1]);
            case "clear":
                return x.clear();
            case "load":
                return x.load();
            case "place":
                return x.place();
            case "fact":
                return x.fact((int) v[0]);
            case "weight":
                return x.weight((int) v[0], (int) v[1], (int) v[2]);
            case "text":
                return x.text(v[0], (int) v[1]);
            case "encode":
                return x.encode();
            default:
                return answerOfTokens(call, v);
        }
    }

    private long answerOfTokens(String call, long[] v) {
        switch (call) {
            case "token":
                return x.token((int) v[0]);
            case "letter":
                return x.letter((int) v[0], (int) v[1]);
            case "step":
                return x.step((int) v[0]);
            case "logit":
                return x.logit((int) v[0]);
            case "draw":
                return x.draw((int) v[0], (int) v[1], (int) v[2]);
            case "say":
                return x.say((int) v[0]);
            case "said":
                return x.said((int) v[0]);
            case "reset":
                return x.reset();
            default:
                throw new IllegalStateException(call);
        }
    }
}
