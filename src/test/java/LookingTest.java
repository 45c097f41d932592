/** Promises 17 and 20 to 22: looking at cells, counting, joining, and how far made numbers are off. */
public final class LookingTest {
    private static final int MISSING = Integer.MIN_VALUE;
    private static final Due due = new Due();

    public static void main(String[] args) {
        cells();
        counts();
        joins();
        joinsOfOneTable();
        misses();
        due.end();
    }

    /** TABLE 0: KEY, DAY, SUM, NAME, three ROWS. TABLE 1: KEY, REF to 0, four ROWS. */
    private static MaskedCopies people() {
        MaskedCopies x = new MaskedCopies();
        x.table();
        x.column(0, 2, 0);
        x.column(0, 3, 0);
        x.column(0, 4, 0);
        x.table();
        x.column(1, 1, 0);
        due.row(x, 0, 0, 15, -15, 7);
        due.row(x, 0, 14, 26, 38, MISSING);
        due.row(x, 0, 28, MISSING, 41, MISSING);
        due.row(x, 1, 0, 14);
        due.row(x, 1, 14, 14);
        due.row(x, 1, 28, MISSING);
        due.row(x, 1, 32, 32);
        return x;
    }

    private static void cells() {
        MaskedCopies x = people();
        due.is(17, "a CELL", x.at(0, 1, 2, 0), 38);
        due.is(17, "a MISSING one", x.at(0, 2, 1, 0), MISSING);
        due.is(17, "nothing MADE", x.at(0, 1, 2, 1), MISSING);
        x.make();
        due.is(17, "a MADE CELL", x.at(0, 1, 2, 1), 38);
        int[][] none = {{2, 0, 0, 0}, {-1, 0, 0, 0}, {0, 3, 0, 0}, {0, -1, 0, 0}, {0, 0, 4, 0}, {0, 0, -1, 1},
            {0, 0, 0, 2}, {0, 0, 0, -1}, {1, 4, 0, 1}, {1, 0, 2, 1}};
        for (int[] n : none) due.is(17, "no such one", x.at(n[0], n[1], n[2], n[3]), MISSING);
    }

    private static void counts() {
        MaskedCopies x = people();
        due.is(20, "MISSING ones", x.count(0, 3, MISSING, 0), 2);
        due.is(20, "one", x.count(0, 3, 7, 0), 1);
        due.is(20, "none", x.count(0, 3, 1000, 0), 0);
        due.is(20, "nothing MADE", x.count(0, 3, 7, 1), -3);
        due.is(20, "made 2", x.count(0, 3, 7, 2), -2);
        due.is(20, "made -1", x.count(0, 3, 7, -1), -2);
        due.is(20, "no TABLE", x.count(2, 0, 7, 2), -1);
        due.is(20, "no COLUMN", x.count(0, 4, 7, 1), -1);
        x.mask(0, 3, 5, 0);
        x.make();
        due.is(20, "MADE MISSING ones", x.count(0, 3, MISSING, 1), 3);
        due.is(20, "true ones stay", x.count(0, 3, MISSING, 0), 2);
    }

    private static void joins() {
        MaskedCopies x = people();
        due.is(21, "true ones", x.joins(1, 1, 0), 2);
        due.is(21, "nothing MADE", x.joins(1, 1, 1), -3);
        due.is(21, "made 2", x.joins(1, 1, 2), -2);
        due.is(21, "no REF", x.joins(1, 0, 1), -2);
        due.is(21, "no TABLE", x.joins(2, 1, 0), -1);
        due.is(21, "no COLUMN", x.joins(1, 2, 5), -1);
        x.mask(0, 0, 1, 0);
        x.dial(0, 0, 3, 7, 7);
        x.make();
        due.is(21, "MADE ones", x.joins(1, 1, 1), 2);
        x.mask(1, 1, 5, 0);
        x.make();
        due.is(21, "BLOT", x.joins(1, 1, 1), 0);
    }

    private static void joinsOfOneTable() {
        MaskedCopies x = new MaskedCopies();
        x.table();
        x.column(0, 1, 0);
        due.row(x, 0, 0, 0);
        due.row(x, 0, 14, 0);
        due.row(x, 0, 28, 14);
        due.row(x, 0, 32, MISSING);
        due.is(21, "a REF to its own TABLE", x.joins(0, 1, 0), 3);
    }

    private static void misses() {
        MaskedCopies x = people();
        due.is(22, "nothing MADE", x.miss(0, 1), -3);
        due.is(22, "the KEY", x.miss(0, 0), -2);
        due.is(22, "a NAME", x.miss(0, 3), -2);
        due.is(22, "a REF", x.miss(1, 1), -2);
        due.is(22, "no TABLE", x.miss(2, 1), -1);
        due.is(22, "no COLUMN", x.miss(0, 4), -1);
        x.mask(0, 1, 2, 0);
        x.mask(0, 2, 3, 10);
        x.make();
        // PERSON 0 goes down by 15 (not 30), PERSON 14 by 16.
        due.is(22, "SHIFT", x.miss(0, 1), 15 + 16);
        due.is(22, "COARSE", x.miss(0, 2), 5 + 8 + 1);
        x.mask(0, 2, 5, 0);
        due.is(22, "as it was MADE", x.miss(0, 2), 14);
        x.make();
        due.is(22, "BLOT", x.miss(0, 2), 0);
        x.seed(50);
        x.make();
        // PERSON 0 goes up by 20; PERSON 14 cannot go down by 27, but by 26.
        due.is(22, "SHIFT up and down", x.miss(0, 1), 20 + 26);
        due.row(x, 1, 46, 14);
        due.is(22, "MADE is gone", x.miss(0, 1), -3);
    }
}
