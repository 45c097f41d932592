/** Promises 7 to 10, 18 and 19: owners, masks, dials, the seed, and what they make of one number. */
public final class MasksTest {
    private static final int MISSING = Integer.MIN_VALUE;
    private static final Due due = new Due();

    public static void main(String[] args) {
        owners();
        masksOfKinds();
        maskNumbers();
        dials();
        seeds();
        turnedNumbers();
        shifts();
        shiftsOfOwners();
        due.end();
    }

    /** TABLE 0 with one COLUMN of each KIND, by its number; the REF goes to TABLE 1. */
    private static MaskedCopies allKinds() {
        MaskedCopies x = new MaskedCopies();
        x.table();
        x.table();
        x.column(0, 1, 1);
        x.column(0, 2, 0);
        x.column(0, 3, 0);
        x.column(0, 4, 0);
        return x;
    }

    private static void owners() {
        MaskedCopies x = allKinds();
        due.is(7, "no TABLE", x.owner(2, 0), -1);
        due.is(7, "no COLUMN", x.owner(0, 5), -1);
        due.is(7, "COLUMN -1", x.owner(0, -1), -1);
        for (int c = 2; c < 5; c++) due.is(7, "KIND " + c, x.owner(0, c), -2);
        due.is(7, "a REF", x.owner(0, 1), 0);
        due.is(7, "a DAY", x.owner(0, 2), -2);
        due.is(7, "the KEY", x.owner(0, 0), 1);
        due.is(7, "the KEY again", x.owner(0, 0), 0);
    }

    private static void masksOfKinds() {
        String[] hows = {"01", "05", "0235", "035", "0145"};
        for (int kind = 0; kind < 5; kind++) {
            for (int how = -1; how < 7; how++) {
                MaskedCopies x = allKinds();
                boolean fits = how >= 0 && hows[kind].indexOf('0' + how) >= 0;
                int number = how == 3 ? 7 : how == 4 ? 2 : 0;
                due.is(8, "KIND " + kind + " how " + how, x.mask(0, kind, how, number), fits ? 0 : -2);
                due.is(8, "MASK", x.about(0, kind, 12), fits ? how : 0);
                due.is(8, "number", x.about(0, kind, 13), fits ? number : 0);
            }
        }
        MaskedCopies x = allKinds();
        due.is(8, "no TABLE", x.mask(2, 0, 0, 0), -1);
        due.is(8, "no COLUMN", x.mask(0, 5, 9, 0), -1);
    }

    private static void maskNumbers() {
        MaskedCopies x = allKinds();
        due.is(8, "WIDTH 0", x.mask(0, 2, 3, 0), -2);
        due.is(8, "WIDTH 1", x.mask(0, 2, 3, 1), 0);
        due.is(8, "WIDTH 1000", x.mask(0, 3, 3, 1000), 0);
        due.is(8, "WIDTH 1001", x.mask(0, 3, 3, 1001), -2);
        due.is(8, "WIDTH stays", x.about(0, 3, 13), 1000);
        due.is(8, "s -1", x.mask(0, 4, 4, -1), -2);
        due.is(8, "s 0", x.mask(0, 4, 4, 0), 0);
        due.is(8, "s 11", x.mask(0, 4, 4, 11), 0);
        due.is(8, "s 12", x.mask(0, 4, 4, 12), -2);
        due.is(8, "KEEP with a number", x.mask(0, 4, 0, 1), -2);
        due.is(8, "TURN with a number", x.mask(0, 0, 1, 1), -2);
        due.is(8, "SHIFT with a number", x.mask(0, 2, 2, 5), -2);
        due.is(8, "BLOT with a number", x.mask(0, 1, 5, -1), -2);
        due.is(8, "BLOT", x.mask(0, 3, 5, 0), 0);
        due.is(8, "its number", x.about(0, 3, 13), 0);
    }

    private static void dials() {
        MaskedCopies x = allKinds();
        due.is(9, "no TABLE", x.dial(2, 0, 1, 1, 0), -1);
        due.is(9, "no COLUMN", x.dial(0, 5, 0, 1, 0), -1);
        due.is(9, "digit 0", x.dial(0, 0, 0, 1, 0), -1);
        due.is(9, "digit 5", x.dial(0, 0, 5, 99, 99), -1);
        due.is(9, "digit 1 of a NAME", x.dial(0, 4, 1, 1, 0), -1);
        for (int c = 1; c < 4; c++) due.is(9, "KIND " + c, x.dial(0, c, 0, 99, 99), -1);
        for (int a = -1; a < 12; a++) {
            boolean fits = a == 1 || a == 3 || a == 7 || a == 9;
            due.is(9, "a " + a + " of a KEY", x.dial(0, 0, 4, a, 9), fits ? 0 : -2);
        }
        due.is(9, "b -1 of a KEY", x.dial(0, 0, 1, 1, -1), -2);
        due.is(9, "b 10 of a KEY", x.dial(0, 0, 1, 1, 10), -2);
        for (int a = -1; a < 103; a++) {
            boolean fits = a > 0 && a < 100 && a % 2 == 1 && a % 5 != 0;
            due.is(9, "a " + a + " of a NAME", x.dial(0, 4, 0, a, 99), fits ? 0 : -2);
        }
        due.is(9, "b 0 of a NAME", x.dial(0, 4, 0, 1, 0), 0);
        due.is(9, "b -1 of a NAME", x.dial(0, 4, 0, 1, -1), -2);
        due.is(9, "b 100 of a NAME", x.dial(0, 4, 0, 1, 100), -2);
    }

    private static void seeds() {
        MaskedCopies x = new MaskedCopies();
        due.is(10, "seed(60)", x.seed(60), 0);
        due.is(10, "seed(61)", x.seed(61), -2);
        due.is(10, "seed(-1)", x.seed(-1), -2);
        due.is(10, "seed(0)", x.seed(0), 60);
    }

    private static void turnedNumbers() {
        MaskedCopies x = allKinds();
        due.is(18, "at first", x.turned(0, 0, 12340), 12340);
        due.is(18, "a NAME at first", x.turned(0, 4, 57), 57);
        // 1 2 3 4 by (3 x + 7), (7 x), (x + 9), (9 x + 1): 0 4 2 7, figure 0 + 8 + 6 + 28 = 42.
        x.dial(0, 0, 4, 3, 7);
        x.dial(0, 0, 3, 7, 0);
        x.dial(0, 0, 2, 1, 9);
        x.dial(0, 0, 1, 9, 1);
        due.is(18, "12340", x.turned(0, 0, 12340), 4272);
        due.is(18, "0", x.turned(0, 0, 0), 70918);
        due.is(18, "another TABLE's KEY", x.turned(1, 0, 12340), 12340);
        x.dial(0, 4, 0, 99, 99);
        due.is(18, "NAME 0", x.turned(0, 4, 0), 99);
        due.is(18, "NAME 99", x.turned(0, 4, 99), 0);
        due.is(18, "no RIGHT FIGURE", x.turned(0, 0, 12341), -2);
        due.is(18, "too high", x.turned(0, 0, 112340), -2);
        due.is(18, "below 0", x.turned(0, 0, -10), -2);
        due.is(18, "MISSING KEY", x.turned(0, 0, MISSING), -2);
        due.is(18, "NAME 100", x.turned(0, 4, 100), -2);
        due.is(18, "NAME -1", x.turned(0, 4, -1), -2);
        due.is(18, "MISSING NAME", x.turned(0, 4, MISSING), -2);
        due.is(18, "no TABLE", x.turned(2, 0, 0), -1);
        due.is(18, "no COLUMN", x.turned(0, 5, 0), -1);
        for (int c = 1; c < 4; c++) due.is(18, "KIND " + c, x.turned(0, c, 0), -1);
    }

    private static void shifts() {
        MaskedCopies x = new MaskedCopies();
        due.is(19, "no such PERSON", x.shift(0), -30);
        x.seed(60);
        due.is(19, "by SEED 60", x.shift(0), 30);
        // 99990 is 61 * 1639 + 11.
        due.is(19, "99990", x.shift(99990), 10 - 30);
        due.is(19, "no right figure", x.shift(1), MISSING);
        due.is(19, "below 0", x.shift(-1), MISSING);
        due.is(19, "too high", x.shift(100000), MISSING);
        due.is(19, "MISSING", x.shift(MISSING), MISSING);
    }

    private static void shiftsOfOwners() {
        MaskedCopies x = new MaskedCopies();
        x.table();
        x.column(0, 2, 0);
        x.column(0, 2, 0);
        x.table();
        x.column(1, 1, 0);
        x.column(1, 2, 0);
        due.row(x, 0, 0, 5, 9980);
        due.row(x, 1, 14, 0, 2);
        due.row(x, 1, 28, MISSING, 0);
        due.is(19, "no COLUMN with SHIFT", x.shift(0), -30);
        x.mask(0, 1, 2, 0);
        due.is(19, "DAY 5 stays", x.shift(0), -5);
        x.mask(1, 2, 2, 0);
        due.is(19, "another PERSON's DAY", x.shift(0), -5);
        x.owner(1, 1);
        due.is(19, "now of this PERSON", x.shift(0), -2);
        x.seed(60);
        due.is(19, "DAY 5 goes to 35", x.shift(0), 30);
        x.mask(0, 2, 2, 0);
        due.is(19, "9980 cannot, so it goes around", x.shift(0), -2);
        x.seed(30);
        due.is(19, "by none", x.shift(0), 0);
        x.seed(49);
        due.is(19, "to 9999", x.shift(0), 19);
        x.seed(50);
        due.is(19, "not to 10000", x.shift(0), -2);
        x.seed(49);
        due.is(16, "make()", x.make(), 100);
        due.is(16, "9980 and 19", x.at(0, 0, 2, 1), 9999);
        due.is(16, "2 and 19", x.at(1, 0, 2, 1), 21);
        due.is(16, "no OWNER", x.at(1, 1, 2, 1), 0);
    }
}
