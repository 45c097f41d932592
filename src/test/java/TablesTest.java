/** Promises 1 to 6 and 28, 29: tables, columns, cells and rows, and what is told about them. */
public final class TablesTest {
    private static final int MISSING = Integer.MIN_VALUE;
    private static final Due due = new Due();

    public static void main(String[] args) {
        newObject();
        tables();
        columns();
        cells();
        rows();
        rowKinds();
        refusedRowKeepsCells();
        aboutAndAll();
        due.end();
    }

    private static void newObject() {
        MaskedCopies x = new MaskedCopies();
        for (int what = 0; what < 5; what++) due.is(1, "all(" + what + ")", x.all(what), 0);
        due.is(1, "about(0, 0, 0)", x.about(0, 0, 0), -1);
        due.is(1, "at(0, 0, 0, 0)", x.at(0, 0, 0, 0), MISSING);
        due.is(1, "broken(0)", x.broken(0), 100);
        due.is(1, "broken(1)", x.broken(1), -3);
    }

    private static void tables() {
        MaskedCopies x = new MaskedCopies();
        for (int t = 0; t < 4; t++) due.is(2, "table()", x.table(), t);
        due.is(2, "table() the fifth time", x.table(), -4);
        due.is(2, "all(0)", x.all(0), 4);
        due.is(2, "KIND of COLUMN 0", x.about(3, 0, 10), 0);
        due.is(2, "COLUMNS", x.about(3, 0, 0), 1);

        MaskedCopies y = new MaskedCopies();
        due.is(16, "make()", y.make(), 100);
        due.is(29, "all(4)", y.all(4), 1);
        y.table();
        due.is(2, "all(4) behind table()", y.all(4), 0);
        y.table();
        y.table();
        y.table();
        y.make();
        due.is(2, "table() refused", y.table(), -4);
        due.is(2, "all(4) behind a refused table()", y.all(4), 1);
    }

    private static void columns() {
        MaskedCopies x = new MaskedCopies();
        due.is(3, "no TABLE", x.column(0, 2, 0), -1);
        x.table();
        due.is(3, "negative TABLE", x.column(-1, 2, 0), -1);
        due.is(3, "REF to no TABLE", x.column(0, 1, 1), -1);
        due.is(3, "REF to a negative TABLE", x.column(0, 1, -1), -1);
        due.is(3, "kind 0", x.column(0, 0, 0), -2);
        due.is(3, "kind 5", x.column(0, 5, 0), -2);
        due.is(3, "kind 5 to 9", x.column(0, 5, 9), -2);
        due.is(3, "DAY to 1", x.column(0, 2, 1), -2);
        due.is(3, "NAME to -1", x.column(0, 4, -1), -2);
        x.table();
        due.is(3, "SUM to a TABLE that is there", x.column(0, 3, 1), -2);
        due.is(3, "REF to a later TABLE", x.column(0, 1, 1), 1);
        due.is(3, "REF to its own TABLE", x.column(0, 1, 0), 2);
        x.make();
        due.is(3, "a refused one", x.column(0, 9, 0), -2);
        due.is(3, "MADE stays", x.all(4), 1);
        due.is(3, "DAY", x.column(0, 2, 0), 3);
        due.is(3, "MADE goes", x.all(4), 0);
        due.is(3, "SUM", x.column(0, 3, 0), 4);
        due.is(3, "NAME", x.column(0, 4, 0), 5);
        due.is(3, "a seventh", x.column(0, 4, 0), -4);
        due.is(3, "a seventh of a wrong kind", x.column(0, 6, 0), -2);
        x.cell(0);
        x.row(1);
        due.is(3, "behind a ROW", x.column(1, 2, 0), -3);
        due.is(3, "behind a ROW, wrong", x.column(1, 2, 1), -2);
        x.cell(0);
        for (int c = 1; c < 6; c++) x.cell(MISSING);
        x.row(0);
        due.is(3, "behind a ROW and full", x.column(0, 2, 0), -3);
    }

    private static void cells() {
        MaskedCopies x = new MaskedCopies();
        for (int i = 1; i <= 6; i++) due.is(4, "cell", x.cell(i == 3 ? MISSING : 1000000000), i);
        due.is(4, "a seventh", x.cell(0), -4);
        due.is(4, "all(2)", x.all(2), 6);
        due.is(6, "wipe()", x.wipe(), 6);
        due.is(6, "all(2)", x.all(2), 0);
        due.is(6, "wipe() again", x.wipe(), 0);
        due.is(4, "cell anew", x.cell(0), 1);
    }

    private static void rows() {
        MaskedCopies x = new MaskedCopies();
        x.cell(12340);
        due.is(5, "no TABLE", x.row(0), -1);
        x.table();
        x.make();
        due.is(5, "row(0)", x.row(0), 0);
        due.is(5, "MADE goes", x.all(4), 0);
        due.is(5, "CELLS wait no more", x.all(2), 0);
        due.is(5, "its KEY", x.at(0, 0, 0, 0), 12340);
        due.is(5, "without CELLS", x.row(0), -2);
        x.cell(12340);
        x.make();
        due.is(5, "the KEY is there", x.row(0), -3);
        due.is(5, "MADE stays", x.all(4), 1);
        x.wipe();
        x.table();
        x.cell(12340);
        due.is(5, "the KEY in another TABLE", x.row(1), 0);
        x.cell(24);
        x.cell(48);
        due.is(5, "too many CELLS", x.row(0), -2);
        x.wipe();
        for (int r = 1; r < 10; r++) {
            x.cell(1000 * r + 2 * r % 10);
            due.is(5, "row(0)", x.row(0), r);
        }
        x.cell(10001);
        due.is(5, "the eleventh", x.row(0), 10);
        x.cell(20002);
        due.is(5, "the twelfth", x.row(0), 11);
        x.cell(30003);
        due.is(5, "the thirteenth", x.row(0), -4);
        due.is(5, "its CELL waits", x.wipe(), 1);
        x.cell(12340);
        due.is(5, "full, the KEY is there", x.row(0), -3);
        x.cell(1);
        due.is(5, "full and wrong", x.row(0), -2);
    }

    private static int oneCell(int kind, int v) {
        MaskedCopies x = new MaskedCopies();
        x.table();
        if (kind > 0) {
            x.column(0, kind, 0);
            x.cell(0);
        }
        x.cell(v);
        return x.row(0);
    }

    private static void rowKinds() {
        int[][] cases = {
            {0, 0, 0}, {0, 12340, 0}, {0, 99990, 0}, {0, 14, 0}, {0, 103, 0}, {0, 1002, 0}, {0, 10001, 0},
            {0, 12341, -2}, {0, 1, -2}, {0, -1, -2}, {0, -10, -2}, {0, 100000, -2}, {0, 100001, -2},
            {0, MISSING, -2}, {0, Integer.MAX_VALUE, -2}, {0, 112340, -2},
            {1, 12340, 0}, {1, MISSING, 0}, {1, 12345, -2}, {1, -1, -2}, {1, 100000, -2},
            {2, 0, 0}, {2, 9999, 0}, {2, MISSING, 0}, {2, -1, -2}, {2, 10000, -2},
            {3, -9999, 0}, {3, 9999, 0}, {3, MISSING, 0}, {3, -10000, -2}, {3, 10000, -2},
            {4, 0, 0}, {4, 99, 0}, {4, MISSING, 0}, {4, -1, -2}, {4, 100, -2}};
        for (int[] one : cases) due.is(5, "KIND " + one[0] + " CELL " + one[1], oneCell(one[0], one[1]), one[2]);
    }

    private static void refusedRowKeepsCells() {
        MaskedCopies x = new MaskedCopies();
        x.table();
        x.column(0, 2, 0);
        x.cell(12340);
        due.is(5, "one CELL of two", x.row(0), -2);
        x.cell(77);
        due.is(5, "both", x.row(0), 0);
        due.is(5, "the first", x.at(0, 0, 0, 0), 12340);
        due.is(5, "the second", x.at(0, 0, 1, 0), 77);
    }

    private static void aboutAndAll() {
        MaskedCopies x = new MaskedCopies();
        x.table();
        x.table();
        x.column(1, 1, 0);
        x.column(1, 3, 0);
        x.mask(1, 2, 3, 250);
        x.owner(1, 1);
        x.cell(0);
        x.cell(MISSING);
        x.cell(1);
        x.row(1);
        due.is(28, "COLUMNS", x.about(1, 0, 0), 3);
        due.is(28, "ROWS", x.about(1, 0, 1), 1);
        due.is(28, "OWNER COLUMN", x.about(1, 0, 2), 1);
        due.is(28, "OWNER COLUMN at first", x.about(0, 0, 2), 0);
        due.is(28, "c not 0 for what below 10", x.about(1, 1, 0), -1);
        due.is(28, "KIND", x.about(1, 1, 10), 1);
        due.is(28, "TABLE of a REF", x.about(1, 1, 11), 0);
        due.is(28, "TABLE of no REF", x.about(1, 2, 11), -1);
        due.is(28, "MASK", x.about(1, 2, 12), 3);
        due.is(28, "its number", x.about(1, 2, 13), 250);
        due.is(28, "MASK at first", x.about(1, 0, 12), 0);
        due.is(28, "number at first", x.about(1, 0, 13), 0);
        int[][] none = {{2, 0, 0}, {-1, 0, 0}, {1, 3, 10}, {1, -1, 10}, {1, 0, 3}, {1, 0, 9}, {1, 0, 14}, {1, 0, -1}};
        for (int[] n : none) due.is(28, "about(" + n[0] + ", " + n[1] + ", " + n[2] + ")", x.about(n[0], n[1], n[2]), -1);

        x.found(1, 1);
        x.cell(5);
        x.seed(60);
        x.make();
        int[] all = {2, 1, 1, 60, 1};
        for (int what = 0; what < 5; what++) due.is(29, "all(" + what + ")", x.all(what), all[what]);
        due.is(29, "all(5)", x.all(5), -1);
        due.is(29, "all(-1)", x.all(-1), -1);
    }
}
