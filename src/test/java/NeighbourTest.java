/** Promises 23 to 27: what a neighbour could find out, and the least loss for a told safety. */
public final class NeighbourTest {
    private static final int MISSING = Integer.MIN_VALUE;
    private static final Due due = new Due();

    public static void main(String[] args) {
        refusals();
        couldByMask();
        couldByRef();
        couldByShift();
        alikes();
        sures();
        losses();
        bestRefusals();
        bestOfOne();
        bestOfSeveral();
        bestOfEqualLosses();
        bestOfUnknownOnes();
        due.end();
    }

    /** One TABLE with COLUMNS of these KINDS behind its KEY. */
    private static MaskedCopies tableOf(int... kinds) {
        MaskedCopies x = new MaskedCopies();
        x.table();
        for (int kind : kinds) x.column(0, kind, 0);
        return x;
    }

    private static void refusals() {
        MaskedCopies x = tableOf(2);
        due.is(23, "without ROWS", x.could(0, 0, 0), -1);
        due.is(24, "without ROWS", x.alike(0, 0), -1);
        due.is(24, "without ROWS, a bit of none", x.alike(0, 64), -1);
        due.is(25, "without ROWS", x.sure(0, 0, 0, 0), -1);
        due.row(x, 0, 0, 5);
        due.is(23, "no TABLE", x.could(1, 0, 0), -1);
        due.is(23, "ROW 1", x.could(0, 1, 0), -1);
        due.is(23, "ROW -1", x.could(0, -1, 4), -1);
        due.is(23, "a bit of none", x.could(0, 0, 4), -2);
        due.is(23, "the highest bit", x.could(0, 0, MISSING), -2);
        due.is(23, "all COLUMNS", x.could(0, 0, 3), 1);
        due.is(24, "no TABLE", x.alike(-1, 0), -1);
        due.is(24, "a bit of none", x.alike(0, 7), -2);
        due.is(24, "a bit of none", x.alike(0, -1), -2);
        due.is(25, "no TABLE", x.sure(1, 0, 0, 0), -1);
        due.is(25, "no ROW", x.sure(0, 1, 9, 0), -1);
        due.is(25, "no COLUMN", x.sure(0, 0, 9, 2), -1);
        due.is(25, "a bit of none", x.sure(0, 0, 9, 1), -2);
        due.is(25, "of itself", x.sure(0, 0, 0, 1), 1);
    }

    private static void couldByMask() {
        MaskedCopies x = tableOf(3, 4);
        due.row(x, 0, 0, 11, 5);
        due.row(x, 0, 14, 19, 5);
        due.row(x, 0, 28, -1, MISSING);
        due.row(x, 0, 32, MISSING, 6);
        due.row(x, 0, 46, MISSING, MISSING);
        due.is(23, "nothing known", x.could(0, 0, 0), 5);
        due.is(23, "KEY kept", x.could(0, 0, 1), 1);
        due.is(23, "SUM kept", x.could(0, 0, 2), 1);
        due.is(23, "NAME kept", x.could(0, 0, 4), 2);
        due.is(23, "MISSING kept", x.could(0, 3, 2), 2);
        x.mask(0, 0, 1, 0);
        due.is(23, "KEY turned", x.could(0, 0, 1), 5);
        x.mask(0, 1, 3, 10);
        due.is(23, "COARSE", x.could(0, 0, 2), 2);
        due.is(23, "COARSE below 0", x.could(0, 2, 2), 1);
        due.is(23, "COARSE and MISSING", x.could(0, 4, 2), 2);
        due.is(23, "both", x.could(0, 4, 6), 1);
        x.mask(0, 1, 5, 0);
        due.is(23, "BLOT", x.could(0, 0, 2), 5);
        x.mask(0, 2, 1, 0);
        due.is(23, "NAME turned", x.could(0, 0, 4), 5);
        x.mask(0, 2, 4, 1);
        due.is(23, "NAME dealt", x.could(0, 0, 4), 5);
    }

    private static void couldByRef() {
        MaskedCopies x = tableOf();
        x.table();
        x.column(1, 1, 0);
        due.row(x, 1, 0, 14);
        due.row(x, 1, 14, 14);
        due.row(x, 1, 28, MISSING);
        due.is(23, "KEY of its TABLE kept", x.could(1, 0, 2), 2);
        x.mask(1, 0, 1, 0);
        due.is(23, "its own TABLE's KEY turned", x.could(1, 0, 2), 2);
        x.mask(0, 0, 1, 0);
        due.is(23, "KEY of its TABLE turned", x.could(1, 2, 2), 3);
        x.mask(0, 0, 0, 0);
        x.mask(1, 1, 5, 0);
        due.is(23, "BLOT", x.could(1, 2, 2), 3);
    }

    private static void couldByShift() {
        MaskedCopies x = tableOf(2, 2, 2);
        due.row(x, 0, 0, 100, 110, 500);
        due.row(x, 0, 14, 200, 210, 600);
        due.row(x, 0, 28, 300, 311, 700);
        due.row(x, 0, 32, MISSING, 410, 800);
        due.row(x, 0, 46, 500, 510, MISSING);
        for (int c = 1; c < 4; c++) x.mask(0, c, 2, 0);
        due.is(23, "one COLUMN", x.could(0, 0, 2), 4);
        due.is(23, "where it is MISSING", x.could(0, 3, 2), 1);
        due.is(23, "two COLUMNS", x.could(0, 0, 6), 3);
        due.is(23, "two others", x.could(0, 0, 10), 3);
        due.is(23, "three COLUMNS", x.could(0, 0, 14), 2);
        due.is(23, "two of three, one MISSING", x.could(0, 4, 14), 1);
        x.mask(0, 3, 0, 0);
        due.is(23, "two with SHIFT, one kept", x.could(0, 0, 14), 1);
        x.mask(0, 3, 5, 0);
        due.is(23, "two with SHIFT, one BLOT", x.could(0, 0, 14), 3);
    }

    private static void alikes() {
        MaskedCopies x = tableOf(3);
        due.row(x, 0, 0, 1);
        due.row(x, 0, 14, 2);
        due.row(x, 0, 28, 11);
        due.is(24, "nothing known", x.alike(0, 0), 3);
        due.is(24, "kept", x.alike(0, 2), 1);
        x.mask(0, 1, 3, 10);
        due.is(24, "one stands alone", x.alike(0, 2), 1);
        due.row(x, 0, 32, 19);
        due.is(24, "two and two", x.alike(0, 2), 2);
        x.mask(0, 1, 3, 100);
        due.is(24, "all", x.alike(0, 2), 4);
        due.is(24, "with the KEY", x.alike(0, 3), 1);
        x.mask(0, 0, 1, 0);
        due.is(24, "with the KEY turned", x.alike(0, 3), 4);
    }

    private static void sures() {
        MaskedCopies x = tableOf(3, 4);
        due.row(x, 0, 0, 1, 5);
        due.row(x, 0, 14, 2, 5);
        due.row(x, 0, 28, 11, MISSING);
        due.row(x, 0, 32, 12, MISSING);
        due.row(x, 0, 46, 21, 7);
        x.mask(0, 1, 3, 10);
        due.is(25, "two have 5", x.sure(0, 0, 2, 2), 1);
        due.is(25, "both MISSING", x.sure(0, 2, 2, 2), 1);
        due.is(25, "KEYS differ", x.sure(0, 0, 2, 0), 0);
        due.is(25, "the MASKED number", x.sure(0, 0, 2, 1), 1);
        due.is(25, "nothing known", x.sure(0, 0, 0, 2), 0);
        x.mask(0, 2, 4, 1);
        due.is(25, "dealt anew", x.sure(0, 0, 2, 2), 0);
        due.is(25, "alone", x.sure(0, 4, 2, 2), 1);
        x.mask(0, 2, 5, 0);
        due.is(25, "BLOT", x.sure(0, 0, 0, 2), 1);
        x.mask(0, 1, 3, 100);
        due.is(25, "all in one span", x.sure(0, 0, 2, 0), 0);
    }

    private static void losses() {
        MaskedCopies x = tableOf(3, 2);
        due.is(26, "no TABLE", x.loss(1, 1), -1);
        due.is(26, "no COLUMN", x.loss(0, 3), -1);
        due.is(26, "kept", x.loss(0, 1), -2);
        due.is(26, "the KEY", x.loss(0, 0), -2);
        x.mask(0, 1, 3, 10);
        due.is(26, "without ROWS", x.loss(0, 1), 0);
        due.row(x, 0, 0, -1, 9999);
        due.row(x, 0, 14, MISSING, MISSING);
        due.row(x, 0, 28, 23, 1000);
        due.is(26, "9 and 3", x.loss(0, 1), 12);
        x.mask(0, 2, 3, 1000);
        due.is(26, "999 and 0", x.loss(0, 2), 999);
        x.mask(0, 2, 2, 0);
        due.is(26, "SHIFT", x.loss(0, 2), -2);
    }

    private static void bestRefusals() {
        MaskedCopies x = tableOf(3);
        due.is(27, "no TABLE", x.best(1, 0, 0), -1);
        due.is(27, "a bit of none", x.best(0, 4, 1), -2);
        due.is(27, "k 0", x.best(0, 2, 0), -2);
        due.is(27, "k -1", x.best(0, 2, -1), -2);
        due.is(27, "no ROW", x.best(0, 2, 1), -3);
        due.row(x, 0, 0, 1);
        due.row(x, 0, 14, 2001);
        x.mask(0, 1, 3, 37);
        due.is(27, "no such way", x.best(0, 2, 2), -3);
        due.is(27, "the WIDTH stays", x.about(0, 1, 13), 37);
        due.is(27, "k above the ROWS", x.best(0, 0, 3), -3);
        due.is(27, "nothing known", x.best(0, 0, 2), 0);
        due.is(27, "WIDTH 1", x.about(0, 1, 13), 1);
        x.mask(0, 1, 0, 0);
        due.is(27, "no COARSE COLUMN, safe", x.best(0, 0, 2), 0);
        due.is(27, "no COARSE COLUMN, not safe", x.best(0, 2, 2), -3);
        due.is(27, "the MASK stays", x.about(0, 1, 12), 0);
    }

    private static void bestOfOne() {
        MaskedCopies x = tableOf(3);
        due.row(x, 0, 0, 101);
        due.row(x, 0, 14, 102);
        due.row(x, 0, 28, 119);
        due.row(x, 0, 32, 111);
        x.mask(0, 1, 3, 500);
        due.is(27, "k 1", x.best(0, 2, 1), 0);
        due.is(27, "WIDTH", x.about(0, 1, 13), 1);
        due.is(27, "k 2", x.best(0, 2, 2), 1 + 2 + 9 + 1);
        due.is(27, "WIDTH", x.about(0, 1, 13), 10);
        due.is(27, "k 3", x.best(0, 2, 3), 1 + 2 + 19 + 11);
        due.is(27, "WIDTH", x.about(0, 1, 13), 100);
        due.is(27, "LOSS", x.loss(0, 1), 33);
        due.is(27, "ALIKE", x.alike(0, 2), 4);
    }

    private static void bestOfSeveral() {
        MaskedCopies x = tableOf(3, 2, 4);
        due.row(x, 0, 0, 9, 10, 1);
        due.row(x, 0, 14, 8, 20, 1);
        due.row(x, 0, 28, 19, 11, 2);
        due.row(x, 0, 32, 18, 21, 2);
        x.mask(0, 1, 3, 1);
        x.mask(0, 2, 3, 1);
        // By the NAME, 0 goes with 14 and 28 with 32: 10 for the SUMS, 100 for the DAYS.
        due.is(27, "with the NAME", x.best(0, 14, 2), 9 + 8 + 9 + 8 + 10 + 20 + 11 + 21);
        due.is(27, "WIDTH of the SUMS", x.about(0, 1, 13), 10);
        due.is(27, "WIDTH of the DAYS", x.about(0, 2, 13), 100);
        // Without it, DAYS by 10 (loss 2) join 0 with 28 and 14 with 32, if SUMS go by 100 (loss 54).
        due.is(27, "without the NAME", x.best(0, 6, 2), 56);
        due.is(27, "WIDTH of the SUMS", x.about(0, 1, 13), 100);
        due.is(27, "WIDTH of the DAYS", x.about(0, 2, 13), 10);
    }

    private static void bestOfEqualLosses() {
        MaskedCopies x = tableOf(2, 2);
        due.row(x, 0, 0, 1000, 5000);
        due.row(x, 0, 14, 1000, 5000);
        x.mask(0, 1, 3, 1000);
        x.mask(0, 2, 3, 1000);
        due.is(27, "no loss at all", x.best(0, 6, 2), 0);
        due.is(27, "the first", x.about(0, 1, 13), 1);
        due.is(27, "the second", x.about(0, 2, 13), 1);

        MaskedCopies y = tableOf(2, 2);
        due.row(y, 0, 0, 10, 20);
        due.row(y, 0, 14, 11, 21);
        due.row(y, 0, 28, 10, 21);
        due.row(y, 0, 32, 11, 20);
        y.mask(0, 1, 3, 7);
        y.mask(0, 2, 3, 7);
        due.is(27, "either of two", y.best(0, 6, 2), 2);
        due.is(27, "the first stays fine", y.about(0, 1, 13), 1);
        due.is(27, "the second is coarse", y.about(0, 2, 13), 10);
    }

    private static void bestOfUnknownOnes() {
        MaskedCopies x = tableOf(3, 3);
        due.row(x, 0, 0, 1, 77);
        due.row(x, 0, 14, 2, 99);
        x.mask(0, 1, 3, 1);
        x.mask(0, 2, 3, 1000);
        due.is(27, "the second is not known", x.best(0, 2, 2), 3);
        due.is(27, "the first", x.about(0, 1, 13), 10);
        due.is(27, "the second", x.about(0, 2, 13), 1);
    }
}
