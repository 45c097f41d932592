import java.util.List;
import java.util.Set;

/**
 * Runs scripts, each for one sentence of the document, on an object of their own. Of each call in them that is
 * refused, or that only looks, it also asks that it changed nothing.
 */
final class Edges {
    private static final int MOST_CALLS = 512;
    private static final Set<String> LOOKING = Set.of("broken", "at", "turned", "shift", "count", "joins", "miss",
        "could", "alike", "sure", "loss", "about", "all");

    private static final int[] KEYS = {0, 14, 28, 32, 46, 50, 64, 78, 82, 96, 103, 1002};

    private final Due due = new Due();
    private final Twins twins = new Twins();

    /** Calls that fill a TABLE with all the ROWS it may have; behind each KEY they have these CELLS (ROW: its number). */
    static String twelveRows(int t, String cells) {
        StringBuilder script = new StringBuilder();
        for (int r = 0; r < KEYS.length; r++) script.append("fill(" + t + ", " + KEYS[r] + cells.replace("ROW", "" + r) + ") -> " + r + ";");
        return script.toString();
    }

    void hold(int promise, String sentence, String script) {
        List<Call> calls = Call.parse(script);
        due.holds("'" + sentence + "' is asked with 512 calls at most", calls.size() <= MOST_CALLS);
        MaskedCopies x = new MaskedCopies();
        for (int i = 0; i < calls.size(); i++) {
            Call call = calls.get(i);
            String told = "'" + sentence + "', call " + (i + 1) + ": " + call.text;
            int got = call.on(x);
            if (call.due == null) due.holds("promise " + promise + ": " + told + " is not refused", !Call.isRefusal(got));
            else due.is(promise, told, got, call.due);
            if (LOOKING.contains(call.name) || Call.isRefusal(got)) changesNothing(told, calls.subList(0, i), call);
        }
    }

    private void changesNothing(String told, List<Call> before, Call call) {
        String change = twins.firstChange(before, call);
        due.holds(told + " changes nothing, but " + change, change == null);
    }

    void end() {
        due.end();
    }
}
