/** Random runs, the same each time, in which the class must answer every call as the Model does. */
public final class ModelTest {
    // Nothing is promised of an object behind its 512th call; the last calls of a run look at what it has come to.
    private static final int RUNS = 3000, CALLS = 512, LAST_LOOKS = 100;
    private static final int[] ODD_NUMBERS = {-1, -2, 6, 7, 12, 13, 61, 64, 100, 1001, 99999, 100000,
        Integer.MAX_VALUE, Integer.MIN_VALUE, Integer.MIN_VALUE + 1};

    private final Due due = new Due();
    private final int[] answered = new int[29];
    private final int[] refused = new int[29];
    private long state;
    private MaskedCopies x;
    private Model m;
    private int run;
    private int calls;
    private int spread;

    public static void main(String[] args) {
        ModelTest test = new ModelTest();
        for (int run = 0; run < RUNS; run++) test.oneRun(run);
        for (int call = 0; call < 28; call++) {
            test.due.holds("call " + call + " is answered in some run", test.answered[call] > 0);
        }
        test.due.end();
    }

    private int below(int bound) {
        state = state * 6364136223846793005L + 1442695040888963407L;
        return (int) ((state >>> 33) % bound);
    }

    private boolean oneIn(int n) {
        return below(n) == 0;
    }

    private int odd(int usual) {
        return oneIn(60) ? ODD_NUMBERS[below(ODD_NUMBERS.length)] : usual;
    }

    private void same(int call, String name, int got, int want, int... args) {
        StringBuilder text = new StringBuilder("run " + run + " " + name + "(");
        for (int i = 0; i < args.length; i++) text.append(i == 0 ? "" : ", ").append(args[i]);
        calls++;
        due.is(call + 2, text.append(")").toString(), got, want);
        if (want < 0 && want > -5) refused[call]++;
        else answered[call]++;
    }

    private void oneRun(int number) {
        run = number;
        calls = 0;
        state = number * 7919L + 17;
        x = new MaskedCopies();
        m = new Model();
        spread = new int[] {3, 30, 300, 9000}[below(4)];
        if (!oneIn(10)) build();
        while (calls < CALLS - LAST_LOOKS) step();
        while (calls < CALLS) lastLook();
    }

    private void build() {
        int tables = 1 + below(4);
        for (int t = 0; t < tables; t++) same(0, "table", x.table(), m.table());
        for (int t = 0; t < tables; t++) for (int c = below(6); c > 0; c--) column(t, 1 + below(4), below(tables));
        for (int t = 0; t < tables; t++) for (int r = below(13); r > 0; r--) fullRow(t);
    }

    private int table() {
        return odd(below(Math.max(1, m.tabs.size())));
    }

    private int columnOf(int t) {
        boolean isTable = t >= 0 && t < m.tabs.size();
        return odd(isTable ? below(m.tabs.get(t).cols.size()) : below(6));
    }

    private int columnOfKind(int t, int kind) {
        for (int tries = 0; tries < 8; tries++) {
            int c = columnOf(t);
            if (m.about(t, c, 10) == kind) return c;
        }
        return columnOf(t);
    }

    private int rowOf(int t) {
        boolean isTable = t >= 0 && t < m.tabs.size();
        return odd(isTable ? below(Math.max(1, m.tabs.get(t).rows.size())) : below(12));
    }

    private int key() {
        int digits = oneIn(2) ? below(10) : oneIn(2) ? 9990 + below(10) : below(10) * 1111;
        int sum = digits / 1000 + 2 * (digits / 100 % 10) + 3 * (digits / 10 % 10) + 4 * (digits % 10);
        return digits * 10 + (sum + (oneIn(60) ? 1 : 0)) % 10;
    }

    private int value(int kind) {
        if (oneIn(12) && kind != 0 || oneIn(300)) return Integer.MIN_VALUE;
        if (oneIn(300)) return ODD_NUMBERS[below(ODD_NUMBERS.length)];
        switch (kind) {
            case 0: case 1: return key();
            case 2: return oneIn(4) ? below(40) : oneIn(4) ? 9999 - below(40) : 100 + below(spread);
            case 3: return below(2 * spread) - spread;
            default: return oneIn(2) ? below(5) : below(100);
        }
    }

    private int known(int t) {
        boolean isTable = t >= 0 && t < m.tabs.size();
        return odd(below(1 << (isTable ? m.tabs.get(t).cols.size() : 6)));
    }

    private void column(int t, int kind, int to) {
        int target = kind == 1 || oneIn(30) ? to : 0;
        same(1, "column", x.column(t, kind, target), m.column(t, kind, target), t, kind, target);
    }

    private void fullRow(int t) {
        if (t < 0 || t >= m.tabs.size()) return;
        same(4, "wipe", x.wipe(), m.wipe());
        for (Model.Col col : m.tabs.get(t).cols) {
            int v = value(col.kind);
            same(2, "cell", x.cell(v), m.cell(v), v);
        }
        same(3, "row", x.row(t), m.row(t), t);
    }

    private void step() {
        int t = table();
        int c = columnOf(t);
        switch (below(30)) {
            case 0:
                if (oneIn(20)) same(0, "table", x.table(), m.table());
                else column(t, odd(1 + below(4)), odd(below(4)));
                break;
            case 1:
                int v = value(below(5));
                same(2, "cell", x.cell(v), m.cell(v), v);
                break;
            case 2:
                if (oneIn(4)) same(3, "row", x.row(t), m.row(t), t);
                else if (oneIn(2)) fullRow(t);
                else if (oneIn(3)) same(4, "wipe", x.wipe(), m.wipe());
                break;
            case 3:
                int ref = columnOfKind(t, oneIn(4) ? 0 : 1);
                same(5, "owner", x.owner(t, ref), m.owner(t, ref), t, ref);
                break;
            case 4: case 5: case 6: case 7:
                maskStep(t, c);
                break;
            case 8:
                dialStep(t);
                break;
            case 9:
                int s = odd(below(61));
                same(8, "seed", x.seed(s), m.seed(s), s);
                break;
            case 10: case 11:
                ruleStep(t);
                break;
            case 12: case 13: case 14:
                same(14, "make", x.make(), m.make());
                break;
            case 15: case 16: case 17: case 18:
                lookStep(t, c);
                break;
            default:
                neighbourStep(t, c);
                break;
        }
    }

    private void maskStep(int t, int c) {
        int how = odd(below(6));
        int width = oneIn(2) ? 1 + below(1000) : 1 + below(20);
        int number = odd(how == 3 ? width : how == 4 ? below(12) : 0);
        same(6, "mask", x.mask(t, c, how, number), m.mask(t, c, how, number), t, c, how, number);
    }

    private void dialStep(int t) {
        boolean ofKey = oneIn(2);
        int c = columnOfKind(t, ofKey ? 0 : 4);
        int i = odd(ofKey ? 1 + below(4) : 0);
        int a = odd(ofKey ? new int[] {1, 3, 7, 9, 5}[below(5)] : below(101));
        int b = odd(below(ofKey ? 10 : 100));
        same(7, "dial", x.dial(t, c, i, a, b), m.dial(t, c, i, a, b), t, c, i, a, b);
    }

    private void ruleStep(int t) {
        int which = below(8);
        if (which < 2) {
            int a = columnOfKind(t, 2);
            int b = columnOfKind(t, 2);
            same(9, "order", x.order(t, a, b), m.order(t, a, b), t, a, b);
        } else if (which < 5) {
            int u = table();
            int e = columnOfKind(u, 1);
            int to = oneIn(8) ? t : m.about(u, e, 11);
            int c = columnOfKind(to, 3);
            int d = columnOfKind(u, 3);
            int mended = odd(oneIn(4) ? 0 : 1);
            same(10, "agree", x.agree(to, c, u, d, e, mended), m.agree(to, c, u, d, e, mended), to, c, u, d, e, mended);
        } else if (which < 6) {
            int c = columnOfKind(t, 1);
            same(11, "found", x.found(t, c), m.found(t, c), t, c);
        } else {
            same(12, "unrule", x.unrule(), m.unrule());
        }
    }

    private void lookStep(int t, int c) {
        int r = rowOf(t);
        int made = odd(below(2));
        switch (below(7)) {
            case 0:
                same(13, "broken", x.broken(made), m.broken(made), made);
                break;
            case 1:
                same(15, "at", x.at(t, r, c, made), m.at(t, r, c, made), t, r, c, made);
                break;
            case 2:
                int turning = columnOfKind(t, oneIn(2) ? 0 : 4);
                int v = value(m.about(t, turning, 10));
                same(16, "turned", x.turned(t, turning, v), m.turned(t, turning, v), t, turning, v);
                break;
            case 3:
                int p = odd(key());
                same(17, "shift", x.shift(p), m.shift(p), p);
                break;
            case 4:
                int w = oneIn(4) ? value(m.about(t, c, 10)) : m.at(t, r, c, made);
                same(18, "count", x.count(t, c, w, made), m.count(t, c, w, made), t, c, w, made);
                break;
            case 5:
                int ref = columnOfKind(t, 1);
                same(19, "joins", x.joins(t, ref, made), m.joins(t, ref, made), t, ref, made);
                break;
            default:
                same(20, "miss", x.miss(t, c), m.miss(t, c), t, c);
                break;
        }
    }

    private void neighbourStep(int t, int c) {
        int r = rowOf(t);
        int known = known(t);
        int what = odd(oneIn(2) ? below(3) : 10 + below(4));
        switch (below(7)) {
            case 0:
                same(21, "could", x.could(t, r, known), m.could(t, r, known), t, r, known);
                break;
            case 1:
                same(22, "alike", x.alike(t, known), m.alike(t, known), t, known);
                break;
            case 2:
                same(23, "sure", x.sure(t, r, known, c), m.sure(t, r, known, c), t, r, known, c);
                break;
            case 3:
                same(24, "loss", x.loss(t, c), m.loss(t, c), t, c);
                break;
            case 4:
                int k = odd(below(6));
                same(25, "best", x.best(t, known, k), m.best(t, known, k), t, known, k);
                break;
            case 5:
                int of = what < 10 && !oneIn(6) ? 0 : c;
                same(26, "about", x.about(t, of, what), m.about(t, of, what), t, of, what);
                break;
            default:
                int all = odd(below(5));
                same(27, "all", x.all(all), m.all(all), all);
                break;
        }
    }

    private void lastLook() {
        int t = table();
        int c = columnOf(t);
        int r = rowOf(t);
        if (oneIn(10)) {
            int what = below(7) - 1;
            same(27, "all", x.all(what), m.all(what), what);
        } else if (oneIn(3)) {
            int what = below(16) - 1;
            int of = what < 10 && !oneIn(4) ? 0 : c;
            same(26, "about", x.about(t, of, what), m.about(t, of, what), t, of, what);
        } else {
            int made = below(2);
            same(15, "at", x.at(t, r, c, made), m.at(t, r, c, made), t, r, c, made);
        }
    }
}
