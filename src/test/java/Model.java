import java.util.ArrayList;
import java.util.Arrays;
import java.util.HashSet;
import java.util.List;
import java.util.Objects;
import java.util.Set;

/**
 * The document again, word by word and as slow as it likes, for the random runs of ModelTest.
 * A missing cell is null here, so that no number can be taken for it by mistake.
 */
final class Model {
    static final int NONE = -1, BAD = -2, STATE = -3, FULL = -4, MISSING = Integer.MIN_VALUE;

    static final class Col {
        int kind, to, how, number, a = 1, b;
    }

    static final class Tab {
        final List<Col> cols = new ArrayList<>();
        final List<Integer[]> rows = new ArrayList<>();
        final int[] a = {1, 1, 1, 1, 1}, b = new int[5];
        int owner;
    }

    final List<Tab> tabs = new ArrayList<>();
    final List<int[]> rules = new ArrayList<>();
    final List<Integer> wait = new ArrayList<>();
    List<List<Integer[]>> made = null;
    int seed = 0;

    private boolean noTable(int t) {
        return t < 0 || t >= tabs.size();
    }

    private boolean noColumn(int t, int c) {
        return noTable(t) || c < 0 || c >= tabs.get(t).cols.size();
    }

    private boolean noRow(int t, int r) {
        return noTable(t) || r < 0 || r >= tabs.get(t).rows.size();
    }

    private Col col(int t, int c) {
        return tabs.get(t).cols.get(c);
    }

    private static Integer boxed(int v) {
        return v == MISSING ? null : Integer.valueOf(v);
    }

    private static int plain(Integer v) {
        return v == null ? MISSING : v;
    }

    private static boolean right(int v) {
        if (v < 0 || v > 99999) return false;
        String s = String.format("%05d", v);
        int sum = 0;
        for (int i = 0; i < 4; i++) sum += (i + 1) * (s.charAt(i) - '0');
        return sum % 10 == s.charAt(4) - '0';
    }

    private static boolean fits(int kind, Integer v) {
        if (v == null) return kind != 0;
        switch (kind) {
            case 0: case 1: return right(v);
            case 2: return 0 <= v && v <= 9999;
            case 3: return -9999 <= v && v <= 9999;
            default: return 0 <= v && v <= 99;
        }
    }

    int table() {
        if (tabs.size() == 4) return FULL;
        Tab tab = new Tab();
        tab.cols.add(new Col());
        tabs.add(tab);
        made = null;
        return tabs.size() - 1;
    }

    int column(int t, int kind, int to) {
        if (noTable(t)) return NONE;
        if (kind == 1 && noTable(to)) return NONE;
        if (kind < 1 || kind > 4) return BAD;
        if (kind != 1 && to != 0) return BAD;
        if (!tabs.get(t).rows.isEmpty()) return STATE;
        if (tabs.get(t).cols.size() == 6) return FULL;
        Col col = new Col();
        col.kind = kind;
        col.to = to;
        tabs.get(t).cols.add(col);
        made = null;
        return tabs.get(t).cols.size() - 1;
    }

    int cell(int v) {
        if (wait.size() == 6) return FULL;
        wait.add(boxed(v));
        return wait.size();
    }

    int row(int t) {
        if (noTable(t)) return NONE;
        Tab tab = tabs.get(t);
        if (wait.size() != tab.cols.size()) return BAD;
        for (int c = 0; c < wait.size(); c++) if (!fits(tab.cols.get(c).kind, wait.get(c))) return BAD;
        for (Integer[] row : tab.rows) if (row[0].equals(wait.get(0))) return STATE;
        if (tab.rows.size() == 12) return FULL;
        tab.rows.add(wait.toArray(new Integer[0]));
        wait.clear();
        made = null;
        return tab.rows.size() - 1;
    }

    int wipe() {
        int n = wait.size();
        wait.clear();
        return n;
    }

    int owner(int t, int c) {
        if (noColumn(t, c)) return NONE;
        if (c != 0 && col(t, c).kind != 1) return BAD;
        int was = tabs.get(t).owner;
        tabs.get(t).owner = c;
        return was;
    }

    int mask(int t, int c, int how, int number) {
        if (noColumn(t, c)) return NONE;
        int[][] hows = {{0, 1}, {0, 5}, {0, 2, 3, 5}, {0, 3, 5}, {0, 1, 4, 5}};
        if (Arrays.binarySearch(hows[col(t, c).kind], how) < 0) return BAD;
        int low = how == 3 ? 1 : 0, high = how == 3 ? 1000 : how == 4 ? 11 : 0;
        if (number < low || number > high) return BAD;
        col(t, c).how = how;
        col(t, c).number = number;
        return 0;
    }

    int dial(int t, int c, int i, int a, int b) {
        if (noColumn(t, c)) return NONE;
        if (c == 0) {
            if (i < 1 || i > 4) return NONE;
            if (!Set.of(1, 3, 7, 9).contains(a) || b < 0 || b > 9) return BAD;
            tabs.get(t).a[i] = a;
            tabs.get(t).b[i] = b;
            return 0;
        }
        if (col(t, c).kind != 4 || i != 0) return NONE;
        if (a < 1 || a > 99 || a % 2 == 0 || a % 5 == 0 || b < 0 || b > 99) return BAD;
        col(t, c).a = a;
        col(t, c).b = b;
        return 0;
    }

    int seed(int s) {
        if (s < 0 || s > 60) return BAD;
        int was = seed;
        seed = s;
        return was;
    }

    private int addRule(int... rule) {
        if (rules.size() == 8) return FULL;
        rules.add(rule);
        return rules.size() - 1;
    }

    int order(int t, int a, int b) {
        if (noColumn(t, a) || noColumn(t, b)) return NONE;
        if (a == b || col(t, a).kind != 2 || col(t, b).kind != 2) return BAD;
        return addRule(0, t, a, b);
    }

    int agree(int t, int c, int u, int d, int e, int mended) {
        if (noColumn(t, c) || noColumn(u, d) || noColumn(u, e)) return NONE;
        if (col(t, c).kind != 3 || col(u, d).kind != 3 || col(u, e).kind != 1) return BAD;
        if (col(u, e).to != t || u == t || mended < 0 || mended > 1) return BAD;
        return addRule(1, t, c, u, d, e, mended);
    }

    int found(int t, int c) {
        if (noColumn(t, c)) return NONE;
        if (col(t, c).kind != 1) return BAD;
        return addRule(2, t, c);
    }

    int unrule() {
        int n = rules.size();
        rules.clear();
        return n;
    }

    private List<List<Integer[]>> truth() {
        List<List<Integer[]>> all = new ArrayList<>();
        for (Tab tab : tabs) all.add(tab.rows);
        return all;
    }

    private static int sumFor(List<List<Integer[]>> x, int[] rule, Integer key) {
        int sum = 0;
        for (Integer[] part : x.get(rule[3]))
            if (key.equals(part[rule[5]]) && part[rule[4]] != null) sum += part[rule[4]];
        return sum;
    }

    private int firstBroken(List<List<Integer[]>> x) {
        for (int i = 0; i < rules.size(); i++) {
            int[] rule = rules.get(i);
            for (Integer[] row : x.get(rule[1])) {
                Integer v = row[rule[2]];
                if (v == null) continue;
                if (rule[0] == 0 && row[rule[3]] != null && v > row[rule[3]]) return i;
                if (rule[0] == 1 && v != sumFor(x, rule, row[0])) return i;
                if (rule[0] == 2) {
                    Set<Integer> keys = new HashSet<>();
                    for (Integer[] other : x.get(col(rule[1], rule[2]).to)) keys.add(other[0]);
                    if (!keys.contains(v)) return i;
                }
            }
        }
        return 100;
    }

    int broken(int m) {
        if (m < 0 || m > 1) return BAD;
        if (m == 1 && made == null) return STATE;
        return firstBroken(m == 1 ? made : truth());
    }

    private int turnKey(int t, int v) {
        String s = String.format("%05d", v);
        int sum = 0;
        int out = 0;
        for (int i = 4; i >= 1; i--) {
            int x = s.charAt(4 - i) - '0';
            int y = (tabs.get(t).a[i] * x + tabs.get(t).b[i]) % 10;
            sum += (5 - i) * y;
            out = out * 10 + y;
        }
        return out * 10 + sum % 10;
    }

    private Integer ownerOf(int t, int r) {
        return tabs.get(t).rows.get(r)[tabs.get(t).owner];
    }

    private int shiftOf(Integer p) {
        if (p == null) return 0;
        List<Integer> days = new ArrayList<>();
        for (int t = 0; t < tabs.size(); t++)
            for (int r = 0; r < tabs.get(t).rows.size(); r++)
                for (int c = 0; c < tabs.get(t).cols.size(); c++)
                    if (p.equals(ownerOf(t, r)) && col(t, c).how == 2 && tabs.get(t).rows.get(r)[c] != null)
                        days.add(tabs.get(t).rows.get(r)[c]);
        for (int r = 0; ; r++) {
            int by = (p + seed + r) % 61 - 30;
            boolean stay = true;
            for (int day : days) stay &= day + by >= 0 && day + by <= 9999;
            if (stay) return by;
        }
    }

    private static int coarse(int v, int width) {
        int x = -20000 / width * width - width;
        while (x + width <= v) x += width;
        return x;
    }

    private Integer masked(int t, int r, int c) {
        Tab tab = tabs.get(t);
        Col col = tab.cols.get(c);
        Integer v = tab.rows.get(r)[c];
        if (col.how == 4) return tab.rows.get((r + col.number) % tab.rows.size())[c];
        if (v == null || col.how == 5) return null;
        if (col.kind == 1) return col(col.to, 0).how == 1 ? turnKey(col.to, v) : v;
        if (col.how == 1) return c == 0 ? turnKey(t, v) : (col.a * v + col.b) % 100;
        if (col.how == 2) return v + shiftOf(ownerOf(t, r));
        if (col.how == 3) return coarse(v, col.number);
        return v;
    }

    int make() {
        List<List<Integer[]>> x = new ArrayList<>();
        for (int t = 0; t < tabs.size(); t++) {
            x.add(new ArrayList<>());
            for (int r = 0; r < tabs.get(t).rows.size(); r++) {
                Integer[] row = new Integer[tabs.get(t).cols.size()];
                for (int c = 0; c < row.length; c++) row[c] = masked(t, r, c);
                x.get(t).add(row);
            }
        }
        for (int[] rule : rules)
            if (rule[0] == 1 && rule[6] == 1)
                for (Integer[] row : x.get(rule[1]))
                    if (row[rule[2]] != null) row[rule[2]] = sumFor(x, rule, row[0]);
        int first = firstBroken(x);
        if (first == 100) made = x;
        return first;
    }

    int at(int t, int r, int c, int m) {
        if (noRow(t, r) || noColumn(t, c) || m < 0 || m > 1 || m == 1 && made == null) return MISSING;
        return plain((m == 1 ? made : truth()).get(t).get(r)[c]);
    }

    int turned(int t, int c, int v) {
        if (noColumn(t, c) || c != 0 && col(t, c).kind != 4) return NONE;
        if (v == MISSING || !fits(col(t, c).kind, v)) return BAD;
        return c == 0 ? turnKey(t, v) : (col(t, c).a * v + col(t, c).b) % 100;
    }

    int shift(int person) {
        return right(person) ? shiftOf(person) : MISSING;
    }

    int count(int t, int c, int v, int m) {
        if (noColumn(t, c)) return NONE;
        if (m < 0 || m > 1) return BAD;
        if (m == 1 && made == null) return STATE;
        int n = 0;
        for (Integer[] row : (m == 1 ? made : truth()).get(t)) if (Objects.equals(row[c], boxed(v))) n++;
        return n;
    }

    int joins(int t, int c, int m) {
        if (noColumn(t, c)) return NONE;
        if (col(t, c).kind != 1 || m < 0 || m > 1) return BAD;
        if (m == 1 && made == null) return STATE;
        List<List<Integer[]>> x = m == 1 ? made : truth();
        int n = 0;
        for (Integer[] row : x.get(t)) for (Integer[] other : x.get(col(t, c).to)) if (other[0].equals(row[c])) n++;
        return n;
    }

    int miss(int t, int c) {
        if (noColumn(t, c)) return NONE;
        if (col(t, c).kind != 2 && col(t, c).kind != 3) return BAD;
        if (made == null) return STATE;
        int far = 0;
        for (int r = 0; r < tabs.get(t).rows.size(); r++) {
            Integer x = tabs.get(t).rows.get(r)[c], y = made.get(t).get(r)[c];
            if (x != null && y != null) far += Math.abs(x - y);
        }
        return far;
    }

    private boolean couldBe(int t, int r, int m, int known) {
        Tab tab = tabs.get(t);
        int n = tab.cols.size();
        for (int c = 0; c < n; c++) {
            if ((known & 1 << c) == 0) continue;
            Col col = tab.cols.get(c);
            Integer has = masked(t, m, c);
            Integer truth = tab.rows.get(r)[c];
            if (col.how == 2) {
                if ((has == null) != (truth == null)) return false;
                for (int d = 0; d < n; d++) {
                    if ((known & 1 << d) == 0 || tab.cols.get(d).how != 2) continue;
                    Integer hasToo = masked(t, m, d);
                    Integer truthToo = tab.rows.get(r)[d];
                    if (has == null || hasToo == null || truthToo == null) continue;
                    if (has - hasToo != truth - truthToo) return false;
                }
            } else if (col.how == 3 || col.how == 0 && (col.kind != 1 || col(col.to, 0).how == 0)) {
                if (!Objects.equals(masked(t, r, c), has)) return false;
            }
        }
        return true;
    }

    private boolean badBits(int t, int known) {
        return (known & ~((1 << tabs.get(t).cols.size()) - 1)) != 0;
    }

    int could(int t, int r, int known) {
        if (noRow(t, r)) return NONE;
        if (badBits(t, known)) return BAD;
        int n = 0;
        for (int m = 0; m < tabs.get(t).rows.size(); m++) if (couldBe(t, r, m, known)) n++;
        return n;
    }

    int alike(int t, int known) {
        if (noTable(t) || tabs.get(t).rows.isEmpty()) return NONE;
        if (badBits(t, known)) return BAD;
        int least = 99;
        for (int r = 0; r < tabs.get(t).rows.size(); r++) least = Math.min(least, could(t, r, known));
        return least;
    }

    int sure(int t, int r, int known, int c) {
        if (noRow(t, r) || noColumn(t, c)) return NONE;
        if (badBits(t, known)) return BAD;
        Set<Integer> seen = new HashSet<>();
        for (int m = 0; m < tabs.get(t).rows.size(); m++) if (couldBe(t, r, m, known)) seen.add(masked(t, m, c));
        return seen.size() == 1 ? 1 : 0;
    }

    int loss(int t, int c) {
        if (noColumn(t, c)) return NONE;
        if (col(t, c).how != 3) return BAD;
        int sum = 0;
        for (Integer[] row : tabs.get(t).rows) if (row[c] != null) sum += row[c] - coarse(row[c], col(t, c).number);
        return sum;
    }

    private int bestLoss;
    private int[] bestWidths;

    private void tryWidths(int t, int known, int k, List<Integer> coarse, int j) {
        if (j < coarse.size()) {
            for (int width = 1; width <= 1000; width *= 10) {
                col(t, coarse.get(j)).number = width;
                tryWidths(t, known, k, coarse, j + 1);
            }
            return;
        }
        int sum = 0;
        for (int c : coarse) sum += loss(t, c);
        if (bestWidths != null && sum >= bestLoss || alike(t, known) < k) return;
        bestLoss = sum;
        bestWidths = new int[coarse.size()];
        for (int i = 0; i < bestWidths.length; i++) bestWidths[i] = col(t, coarse.get(i)).number;
    }

    int best(int t, int known, int k) {
        if (noTable(t)) return NONE;
        if (badBits(t, known) || k < 1) return BAD;
        if (tabs.get(t).rows.isEmpty()) return STATE;
        List<Integer> coarse = new ArrayList<>();
        List<Integer> before = new ArrayList<>();
        for (int c = 0; c < tabs.get(t).cols.size(); c++) {
            if (col(t, c).how != 3) continue;
            coarse.add(c);
            before.add(col(t, c).number);
        }
        bestWidths = null;
        tryWidths(t, known, k, coarse, 0);
        for (int i = 0; i < coarse.size(); i++)
            col(t, coarse.get(i)).number = bestWidths == null ? before.get(i) : bestWidths[i];
        return bestWidths == null ? STATE : bestLoss;
    }

    int about(int t, int c, int what) {
        if (noColumn(t, c)) return NONE;
        if (what < 10 && c != 0) return NONE;
        if (what == 0) return tabs.get(t).cols.size();
        if (what == 1) return tabs.get(t).rows.size();
        if (what == 2) return tabs.get(t).owner;
        if (what == 10) return col(t, c).kind;
        if (what == 11) return col(t, c).kind == 1 ? col(t, c).to : NONE;
        if (what == 12) return col(t, c).how;
        if (what == 13) return col(t, c).number;
        return NONE;
    }

    int all(int what) {
        int[] answers = {tabs.size(), rules.size(), wait.size(), seed, made == null ? 0 : 1};
        return what < 0 || what > 4 ? NONE : answers[what];
    }
}
