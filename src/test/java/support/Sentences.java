import java.io.IOException;
import java.nio.file.Files;
import java.nio.file.Path;
import java.util.HashMap;
import java.util.Map;
import java.util.TreeSet;

/** Answers held against the document, a sentence at a time: what is not as due is printed with its sentence. */
final class Sentences {
    static final int UNKNOWN = -1, OUTSIDE = -2, STATE = -3, FULL = -4, NONE = -6, FAULT = -7;

    private static final Path DOCUMENT = Path.of("../shared/DOC.md");
    /** Asks much and changes nothing: what an object has found already must not outlive a change. */
    static final String ASKED = "best(0); best(1); best(2); best(3); plan(0, 0); plan(1, 0); plan(2, 0); plan(3, 0);"
            + " end(0, 0); slack(0, 1); rule(-1); ruled(1); fault(); row(1); at(0); put(0, 0); put(1, 1)";

    private final Check check;
    private final String document;
    private final Map<String, String> shownBy = new HashMap<>();
    private String now = "";
    private int answers = 1;

    Sentences(String test) {
        check = new Check(test);
        document = evened(read());
    }

    private static String read() {
        try {
            return Files.exists(DOCUMENT) ? Files.readString(DOCUMENT) : "";
        } catch (IOException e) {
            return "";
        }
    }

    private static String evened(String text) {
        return text.replaceAll("\\s+", " ");
    }

    /** What follows tests these words of the document. */
    void sentence(String quote) {
        endSentence();
        now = quote;
        answers = 0;
        // a quote that the document has no more is to be read again, not to be believed
        check.holds("the document says: " + quote, document.isEmpty() || document.contains(evened(quote)));
    }

    private void endSentence() {
        check.holds("an answer was asked for: " + now, answers > 0);
    }

    void due(Run run, String call, int want) {
        answers++;
        String ahead = run.toString();
        check.due("[" + now + "] " + ahead + call, run.ask(call), want);
    }

    /** The calls with their answers, in order: "best(0)", 4, "best(1)", 6, ... */
    void due(Run run, Object... callsAndAnswers) {
        for (int i = 0; i + 1 < callsAndAnswers.length; i += 2) {
            due(run, (String) callsAndAnswers[i], (int) callsAndAnswers[i + 1]);
        }
    }

    void holds(String what, boolean so) {
        answers++;
        check.holds("[" + now + "] " + what, so);
    }

    /** The call is refused so, and nothing that can be shown later is otherwise than without it. */
    void refused(String state, String call, int want) {
        refusedBehind(state, call, want);
        refusedBehind(state + "; " + ASKED, call, want);
    }

    private void refusedBehind(String state, String call, int want) {
        Run run = Run.of(state);
        due(run, call, want);
        String without = shownBy.computeIfAbsent(state, s -> Run.of(s).all());
        holds(state + "; " + call + ": changes nothing", run.all().equals(without));
    }

    /** The call has % in the place of a number that must be within the bounds. */
    void refusedOutside(String state, String call, int least, int most, int want) {
        for (int v : outside(least, most)) {
            refused(state, call.replace("%", String.valueOf(v)), want);
        }
    }

    /** All that is shown behind the change is as in an object that was asked nothing before it. */
    void asThingsAre(String state, String change) {
        String fresh = Run.of(state, change).all();
        holds(state + "; " + change + ": as things are", Run.of(state, ASKED, change).all().equals(fresh));
    }

    /** Just outside, far outside, and such as would be within again if bits of them were lost. */
    static TreeSet<Integer> outside(int least, int most) {
        TreeSet<Integer> found = new TreeSet<>();
        found.add(Integer.MIN_VALUE);
        found.add(Integer.MAX_VALUE);
        for (int v : new int[] {least, most}) {
            found.add(v - 1);
            found.add(v + 1);
            for (int bit : new int[] {5, 8, 16, 31}) {
                found.add(v + (1 << bit));
                found.add(v - (1 << bit));
            }
        }
        found.removeIf(v -> v >= least && v <= most);
        return found;
    }

    void finish() {
        endSentence();
        check.finish();
    }
}
