import java.util.ArrayList;
import java.util.List;

/**
 * Tells whether a call changed anything: of two objects with the same calls behind them only one takes it,
 * and then both are asked all that the face can tell, with calls that change much at the end.
 */
final class Twins {
    private static final int MOST_CALLS = 512;
    private static final int[] PERSONS = {0, 14, 28, 32, 46, 50, 103, 12340, 99990};

    private final List<List<Call>> probes = List.of(
        Call.parse(told()), Call.parse(cells(0)), Call.parse(cells(1)), Call.parse(looks()), Call.parse(neighbours()),
        Call.parse(rules()), Call.parse(waiting()), Call.parse("make(); all(4); broken(1);" + cells(1)), Call.parse(bests()));

    /** The first answer that the call changed, as a text; null if there is none. */
    String firstChange(List<Call> before, Call call) {
        for (List<Call> probe : probes) {
            MaskedCopies with = after(before);
            MaskedCopies without = after(before);
            call.on(with);
            int most = Math.min(probe.size(), MOST_CALLS - before.size() - 1);
            for (int i = 0; i < most; i++) {
                int one = probe.get(i).on(with);
                int other = probe.get(i).on(without);
                if (one != other) return probe.get(i).text + " answers " + one + " behind it, without it " + other;
            }
        }
        return null;
    }

    private static MaskedCopies after(List<Call> before) {
        MaskedCopies x = new MaskedCopies();
        for (Call call : before) call.on(x);
        return x;
    }

    private static String told() {
        StringBuilder text = new StringBuilder("all(0); all(1); all(2); all(3); all(4);");
        for (int t = 0; t < 4; t++) {
            for (int what = 0; what < 3; what++) text.append("about(" + t + ", 0, " + what + ");");
            for (int c = 0; c < 6; c++)
                for (int what = 10; what < 14; what++) text.append("about(" + t + ", " + c + ", " + what + ");");
        }
        return text.toString();
    }

    private static String cells(int made) {
        StringBuilder text = new StringBuilder();
        for (int t = 0; t < 4; t++)
            for (int r = 0; r < 12; r++)
                for (int c = 0; c < 6; c++) text.append("at(" + t + ", " + r + ", " + c + ", " + made + ");");
        return text.toString();
    }

    private static String looks() {
        StringBuilder text = new StringBuilder();
        for (int person : PERSONS) text.append("shift(" + person + ");");
        for (int t = 0; t < 4; t++) {
            for (int key : PERSONS) text.append("turned(" + t + ", 0, " + key + ");");
            for (int c = 0; c < 6; c++) {
                String column = "(" + t + ", " + c;
                text.append("turned" + column + ", 0); turned" + column + ", 77); loss" + column + "); miss" + column + ");");
                for (int made = 0; made < 2; made++)
                    text.append("joins" + column + ", " + made + "); count" + column + ", MISSING, " + made + ");");
            }
        }
        return text.toString();
    }

    private static String neighbours() {
        StringBuilder text = new StringBuilder();
        for (int t = 0; t < 4; t++)
            for (int known = 0; known < 64; known = known * 2 + 1) {
                text.append("alike(" + t + ", " + known + "); could(" + t + ", 0, " + known + ");");
                for (int c = 0; c < 6; c++) text.append("sure(" + t + ", 0, " + known + ", " + c + ");");
            }
        return text.toString();
    }

    private static String rules() {
        return "broken(0); broken(1); make(); broken(1); seed(7); owner(0, 0); owner(1, 0); owner(2, 0); owner(3, 0);"
            + "order(0, 1, 2); found(1, 1); unrule(); wipe()";
    }

    /** Tries the waiting cells on every table, and again with cells behind them that fit many columns. */
    private static String waiting() {
        List<String> tries = new ArrayList<>();
        for (int i = 0; i < 7; i++) tries.add("row(0); row(1); row(2); row(3)");
        return String.join("; cell(0);", tries) + ";" + told() + cells(0);
    }

    private static String bests() {
        StringBuilder text = new StringBuilder();
        for (int t = 0; t < 4; t++) for (int k = 2; k > 0; k--) {
            text.append("best(" + t + ", 1, " + k + ");");
            for (int known = 2; known < 64; known = known * 2 + 2) text.append("best(" + t + ", " + known + ", " + k + ");");
        }
        return text + told();
    }
}
