/** Promises 11 to 16: rules, which of them is broken, and making. */
public final class RulesTest {
    private static final int MISSING = Integer.MIN_VALUE;
    private static final Due due = new Due();

    public static void main(String[] args) {
        ordersTold();
        agreesTold();
        foundsTold();
        rulesFullAndGone();
        orderBroken();
        agreeBroken();
        foundBroken();
        makingMasks();
        makingDeals();
        makingMends();
        mendingInOrder();
        makingFails();
        madeStaysAndGoes();
        due.end();
    }

    /** TABLE 0: KEY, DAY, DAY, SUM. TABLE 1: KEY, REF to 0, SUM, REF to 1, NAME. */
    private static MaskedCopies twoTables() {
        MaskedCopies x = new MaskedCopies();
        x.table();
        x.column(0, 2, 0);
        x.column(0, 2, 0);
        x.column(0, 3, 0);
        x.table();
        x.column(1, 1, 0);
        x.column(1, 3, 0);
        x.column(1, 1, 1);
        x.column(1, 4, 0);
        return x;
    }

    private static void ordersTold() {
        MaskedCopies x = twoTables();
        due.is(11, "order", x.order(0, 2, 1), 0);
        due.is(11, "no TABLE", x.order(2, 1, 2), -1);
        due.is(11, "no first", x.order(0, 4, 1), -1);
        due.is(11, "no second", x.order(0, 1, -1), -1);
        due.is(11, "no such COLUMN twice", x.order(0, 4, 4), -1);
        due.is(11, "they are one", x.order(0, 1, 1), -2);
        due.is(11, "a SUM", x.order(0, 1, 3), -2);
        due.is(11, "the KEY", x.order(0, 0, 1), -2);
        due.is(11, "the next", x.order(0, 1, 2), 1);
    }

    private static void agreesTold() {
        MaskedCopies x = twoTables();
        due.is(12, "agree", x.agree(0, 3, 1, 2, 1, 0), 0);
        due.is(12, "mended", x.agree(0, 3, 1, 2, 1, 1), 1);
        int[][] none = {{2, 3, 1, 2, 1, 0}, {0, 4, 1, 2, 1, 0}, {0, 3, 2, 2, 1, 0}, {0, 3, 1, 5, 1, 0},
            {0, 3, 1, 2, 5, 0}, {0, 3, 1, 2, -1, 7}};
        for (int[] n : none) due.is(12, "none", x.agree(n[0], n[1], n[2], n[3], n[4], n[5]), -1);
        int[][] bad = {{0, 1, 1, 2, 1, 0}, {0, 3, 1, 4, 1, 0}, {0, 3, 1, 2, 2, 0}, {0, 3, 1, 2, 3, 0},
            {1, 2, 1, 2, 3, 0}, {0, 3, 1, 2, 1, 2}, {0, 3, 1, 2, 1, -1}, {1, 2, 0, 3, 0, 0}};
        for (int[] n : bad) due.is(12, "bad", x.agree(n[0], n[1], n[2], n[3], n[4], n[5]), -2);
        due.is(12, "all(1)", x.all(1), 2);
    }

    private static void foundsTold() {
        MaskedCopies x = twoTables();
        due.is(13, "found", x.found(1, 1), 0);
        due.is(13, "to its own TABLE", x.found(1, 3), 1);
        due.is(13, "no TABLE", x.found(2, 1), -1);
        due.is(13, "no COLUMN", x.found(1, 5), -1);
        due.is(13, "the KEY", x.found(1, 0), -2);
        due.is(13, "a SUM", x.found(1, 2), -2);
    }

    private static void rulesFullAndGone() {
        MaskedCopies x = twoTables();
        for (int i = 0; i < 8; i++) due.is(11, "order", x.order(0, 1, 2), i);
        due.is(11, "order, full", x.order(0, 1, 2), -4);
        due.is(12, "agree, full", x.agree(0, 3, 1, 2, 1, 0), -4);
        due.is(13, "found, full", x.found(1, 1), -4);
        due.is(11, "order, full and bad", x.order(0, 1, 1), -2);
        due.is(12, "agree, full and bad", x.agree(0, 3, 1, 2, 1, 3), -2);
        due.is(13, "found, full and none", x.found(9, 1), -1);
        due.is(14, "unrule()", x.unrule(), 8);
        due.is(14, "unrule() again", x.unrule(), 0);
        due.is(14, "all(1)", x.all(1), 0);
        due.is(13, "numbers begin anew", x.found(1, 1), 0);
    }

    private static void orderBroken() {
        MaskedCopies x = twoTables();
        due.row(x, 0, 0, 7, 7, 0);
        due.row(x, 0, 14, 9, MISSING, 0);
        due.row(x, 0, 28, MISSING, 3, 0);
        x.order(0, 1, 2);
        x.order(0, 2, 1);
        due.is(15, "equal and MISSING ones", x.broken(0), 100);
        due.row(x, 0, 32, 7, 8, 0);
        due.is(15, "the second", x.broken(0), 1);
        due.row(x, 0, 46, 8, 7, 0);
        due.is(15, "the first", x.broken(0), 0);
        x.unrule();
        due.is(15, "none", x.broken(0), 100);
        due.is(15, "made 2", x.broken(2), -2);
        due.is(15, "made -1", x.broken(-1), -2);
        due.is(15, "nothing MADE", x.broken(1), -3);
    }

    private static void agreeBroken() {
        MaskedCopies x = twoTables();
        x.agree(0, 3, 1, 2, 1, 0);
        due.row(x, 0, 0, 1, 1, 5);
        due.is(15, "no ROWS: 0 is due", x.broken(0), 0);
        due.row(x, 1, 0, 0, -4, MISSING, 1);
        due.row(x, 1, 14, 0, 9, MISSING, 1);
        due.is(15, "-4 and 9", x.broken(0), 100);
        due.row(x, 1, 28, 0, MISSING, MISSING, 1);
        due.row(x, 1, 32, 14, 100, MISSING, 1);
        due.row(x, 1, 46, MISSING, 100, MISSING, 1);
        due.is(15, "MISSING ones and others' ones", x.broken(0), 100);
        due.row(x, 0, 14, 1, 1, MISSING);
        due.is(15, "a MISSING sum", x.broken(0), 100);
        due.row(x, 0, 28, 1, 1, 1);
        due.is(15, "1, not 0", x.broken(0), 0);
    }

    private static void foundBroken() {
        MaskedCopies x = twoTables();
        x.found(1, 1);
        x.found(1, 3);
        due.row(x, 1, 0, MISSING, 0, 0, 1);
        due.is(15, "MISSING, and itself", x.broken(0), 100);
        due.row(x, 1, 14, MISSING, 0, 28, 1);
        due.is(15, "28 is not there", x.broken(0), 1);
        due.row(x, 1, 28, 32, 0, 0, 1);
        due.is(15, "32 is not there", x.broken(0), 0);
        due.row(x, 0, 32, 1, 1, 1);
        due.is(15, "all there", x.broken(0), 100);
    }

    private static void makingMasks() {
        MaskedCopies x = twoTables();
        due.row(x, 0, 12340, 109, 110, -1);
        due.row(x, 0, 0, MISSING, 9999, -9999);
        due.row(x, 1, 14, 12340, 9999, MISSING, 57);
        due.row(x, 1, 28, 0, MISSING, 14, MISSING);
        x.mask(0, 0, 1, 0);
        x.dial(0, 0, 4, 1, 1);
        x.mask(0, 1, 3, 10);
        x.mask(0, 2, 5, 0);
        x.mask(0, 3, 3, 1000);
        x.mask(1, 2, 3, 7);
        x.mask(1, 4, 1, 0);
        x.dial(1, 4, 0, 3, 50);
        due.is(16, "make()", x.make(), 100);
        int[][][] want = {
            {{22341, 100, MISSING, -1000}, {10001, MISSING, MISSING, -10000}},
            {{14, 22341, 9996, MISSING, 21}, {28, 10001, MISSING, 14, MISSING}}};
        for (int t = 0; t < 2; t++) for (int r = 0; r < 2; r++) for (int c = 0; c < want[t][r].length; c++)
            due.is(16, "at(" + t + ", " + r + ", " + c + ", 1)", x.at(t, r, c, 1), want[t][r][c]);
        due.is(16, "the true one stays", x.at(0, 0, 0, 0), 12340);
        x.mask(1, 1, 5, 0);
        due.is(16, "the MADE one stays", x.at(1, 0, 1, 1), 22341);
        x.make();
        due.is(16, "a REF with BLOT", x.at(1, 0, 1, 1), MISSING);
    }

    private static void makingDeals() {
        MaskedCopies x = new MaskedCopies();
        x.table();
        x.column(0, 4, 0);
        due.row(x, 0, 0, 10);
        due.row(x, 0, 14, MISSING);
        due.row(x, 0, 28, 30);
        int[][] want = {{10, MISSING, 30}, {MISSING, 30, 10}, {30, 10, MISSING}};
        for (int s = 0; s < 12; s++) {
            x.mask(0, 1, 4, s);
            x.make();
            for (int r = 0; r < 3; r++) due.is(16, "DEAL " + s + " ROW " + r, x.at(0, r, 1, 1), want[s % 3][r]);
        }
    }

    private static void makingMends() {
        MaskedCopies x = twoTables();
        due.row(x, 0, 0, 1, 1, 77);
        due.row(x, 0, 14, 1, 1, MISSING);
        due.row(x, 1, 0, 0, 5, MISSING, 1);
        due.row(x, 1, 14, 0, 16, MISSING, 1);
        due.row(x, 1, 28, 14, 39, MISSING, 1);
        x.mask(0, 0, 1, 0);
        x.dial(0, 0, 1, 1, 5);
        x.mask(1, 2, 3, 10);
        x.agree(0, 3, 1, 2, 1, 0);
        due.is(16, "not MENDED", x.make(), 0);
        due.is(16, "nothing MADE", x.all(4), 0);
        x.unrule();
        x.agree(0, 3, 1, 2, 1, 1);
        due.is(15, "true ones are not MENDED", x.broken(0), 0);
        due.is(16, "MENDED", x.make(), 100);
        due.is(16, "0 and 10", x.at(0, 0, 3, 1), 10);
        due.is(16, "a MISSING one stays so", x.at(0, 1, 3, 1), MISSING);
        due.is(16, "the true one stays", x.at(0, 0, 3, 0), 77);
        due.is(20, "MISSING ones of the MENDED COLUMN", x.count(0, 3, MISSING, 1), 1);
        due.is(22, "only the MENDED one is off", x.miss(0, 3), 67);
        x.mask(0, 3, 3, 50);
        x.make();
        due.is(16, "behind all MASKS", x.at(0, 0, 3, 1), 10);
        due.is(16, "a MISSING one of a COARSE COLUMN", x.at(0, 1, 3, 1), MISSING);
        x.mask(0, 3, 5, 0);
        due.is(16, "MENDED and BLOT", x.make(), 100);
        due.is(16, "BLOT is not MENDED", x.at(0, 0, 3, 1), MISSING);
        due.is(15, "broken(1)", x.broken(1), 100);
    }

    /** TABLE 0 has the sums of TABLE 1, which has those of TABLE 2. */
    private static MaskedCopies chain() {
        MaskedCopies x = new MaskedCopies();
        for (int t = 0; t < 3; t++) {
            x.table();
            x.column(t, 3, 0);
            if (t > 0) x.column(t, 1, t - 1);
        }
        due.row(x, 0, 0, 8);
        due.row(x, 1, 0, 8, 0);
        due.row(x, 2, 0, 3, 0);
        due.row(x, 2, 14, 4, 0);
        return x;
    }

    private static void mendingInOrder() {
        MaskedCopies x = chain();
        x.agree(1, 1, 2, 1, 2, 1);
        x.agree(0, 1, 1, 1, 2, 1);
        due.is(16, "the inner first", x.make(), 100);
        due.is(16, "the outer sum", x.at(0, 0, 1, 1), 7);

        MaskedCopies y = chain();
        y.agree(0, 1, 1, 1, 2, 1);
        y.agree(1, 1, 2, 1, 2, 1);
        due.is(16, "the outer first", y.make(), 0);
        due.is(16, "nothing MADE", y.all(4), 0);

        MaskedCopies z = chain();
        z.mask(1, 1, 5, 0);
        z.agree(1, 1, 2, 1, 2, 1);
        z.agree(0, 1, 1, 1, 2, 1);
        due.is(16, "the inner one BLOT", z.make(), 100);
        due.is(16, "MISSING ones are 0 in the outer sum", z.at(0, 0, 1, 1), 0);
    }

    private static void makingFails() {
        MaskedCopies x = twoTables();
        due.row(x, 0, 0, 19, 15, 0);
        due.row(x, 0, 14, 25, 29, 0);
        x.mask(0, 1, 3, 10);
        x.mask(0, 2, 3, 10);
        x.order(0, 2, 1);
        due.is(15, "broken(0)", x.broken(0), 0);
        due.is(16, "make()", x.make(), 100);
        due.is(15, "broken(1)", x.broken(1), 100);
        x.mask(0, 1, 0, 0);
        x.order(0, 1, 2);
        due.is(15, "a new RULE holds in the MADE ones", x.broken(1), 100);
        due.is(16, "make() fails", x.make(), 1);
        due.is(16, "MADE ones are there", x.all(4), 1);
        due.is(16, "as before", x.at(0, 0, 1, 1), 10);
        x.mask(0, 1, 3, 30);
        due.is(16, "the first RULE that does not hold", x.make(), 0);
        due.is(16, "as before still", x.at(0, 0, 1, 1), 10);
    }

    private static void madeStaysAndGoes() {
        MaskedCopies x = twoTables();
        due.row(x, 0, 0, 1, 1, 0);
        x.make();
        x.owner(1, 1);
        x.mask(0, 1, 3, 10);
        x.dial(0, 0, 1, 3, 3);
        x.seed(3);
        x.order(0, 1, 2);
        x.unrule();
        x.best(0, 2, 1);
        x.cell(14);
        x.wipe();
        x.row(0);
        due.is(16, "MADE stays", x.all(4), 1);
        due.is(16, "as it was", x.at(0, 0, 1, 1), 1);
        due.row(x, 1, 0, 0, 0, 0, 0);
        due.is(16, "MADE goes with row()", x.all(4), 0);
        due.is(16, "no MADE CELL", x.at(0, 0, 1, 1), MISSING);
    }
}
