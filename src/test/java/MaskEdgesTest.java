/** What the document says of the edges of promises 7 to 10, 18 and 19, and of what masks make, a script for each sentence. */
public final class MaskEdgesTest {
    private static final Edges edges = new Edges();
    /** TABLE 0 with a COLUMN of each KIND, by its number; the REF goes to TABLE 1, which has its KEY alone. */
    private static final String ALL_KINDS = "table(); table(); column(0, 1, 1); column(0, 2, 0); column(0, 3, 0); column(0, 4, 0);";
    private static final String SHIFTED_DAYS = "table(); column(0, 2, 0); mask(0, 1, 2, 0);";

    public static void main(String[] args) {
        owners();
        ownersOfRows();
        masksOfKinds();
        maskNumbers();
        keyDials();
        nameDials();
        seeds();
        turnedKeys();
        turnedNames();
        turnedRefusals();
        shiftNumbers();
        shiftsThatStay();
        shiftsThatGoAround();
        shiftsOfPersons();
        shiftsWithoutOwner();
        coarseNumbers();
        deals();
        blots();
        turnedRefs();
        missingOnes();
        edges.end();
    }

    private static void owners() {
        edges.hold(7, "The OWNER COLUMN of a TABLE becomes c (0: its KEY): what it was.", ALL_KINDS + """
            about(0, 0, 2) -> 0; owner(0, 0) -> 0; owner(0, 1) -> 0; about(0, 0, 2) -> 1; about(1, 0, 2) -> 0
            owner(0, 1) -> 1; owner(0, 0) -> 1; about(0, 0, 2) -> 0; owner(1, 0) -> 0
            """);
        edges.hold(7, "BAD: it is no REF, nor 0.", ALL_KINDS + """
            owner(0, 1); owner(0, 2) -> BAD; owner(0, 3) -> BAD; owner(0, 4) -> BAD; about(0, 0, 2) -> 1
            """);
        edges.hold(7, "NONE there is no such TABLE, COLUMN", ALL_KINDS + """
            owner(0, 1); owner(0, -1) -> NONE; owner(0, 5) -> NONE; owner(0, MAX) -> NONE; owner(0, MISSING) -> NONE
            owner(-1, 0) -> NONE; owner(2, 0) -> NONE; owner(MAX, 0) -> NONE; owner(MISSING, 0) -> NONE; owner(1, 1) -> NONE
            about(0, 0, 2) -> 1
            """);
    }

    private static void ownersOfRows() {
        edges.hold(7, "The OWNER of a ROW: the KEY of its own ROW, or, if a REF COLUMN is told to be the TABLE's OWNER COLUMN, what it has there", """
            table(); column(0, 1, 0); column(0, 2, 0); mask(0, 2, 2, 0)
            fill(0, 14, 0, 5); fill(0, 0, 14, 9)
            shift(14) -> -5; shift(0) -> -9
            owner(0, 1); shift(14) -> -9; shift(0) -> -5
            owner(0, 0); shift(14) -> -5; shift(0) -> -9
            """);
        edges.hold(7, "OWNERS of all TABLES with one number are one PERSON.", """
            table(); table(); table()
            column(0, 2, 0); column(1, 2, 0); column(2, 1, 1); column(2, 2, 0); mask(0, 1, 2, 0); mask(1, 1, 2, 0); mask(2, 2, 2, 0)
            fill(0, 0, 20) -> 0; shift(0) -> -20
            fill(1, 0, 10) -> 0; shift(0) -> -10
            fill(2, 14, 0, 5) -> 0; shift(0) -> -10; owner(2, 1); shift(0) -> -5
            fill(2, 28, 0, 4) -> 1; shift(0) -> -4; fill(2, 32, 46, 3) -> 2; shift(0) -> -4; shift(46) -> 16
            make() -> 100; at(0, 0, 1, 1) -> 16; at(1, 0, 1, 1) -> 6; at(2, 0, 2, 1) -> 1; at(2, 1, 2, 1) -> 0; at(2, 2, 2, 1) -> 19
            """);
    }

    /** Every how from -1 to 6 of every KIND, and the one before stays where it is BAD. */
    private static void masksOfKinds() {
        String[] sentences = {"1 TURN (of KEYS, NAMES)", "2 SHIFT (of DAYS)", "3 COARSE (of DAYS, SUMS)", "4 DEAL (of NAMES)",
            "5 BLOT (of all but KEYS)"};
        String[] kinds = {"04", "2", "23", "4", "1234"};
        for (int how = 1; how <= 5; how++) {
            StringBuilder script = new StringBuilder(ALL_KINDS);
            int number = how == 3 ? 9 : how == 4 ? 7 : 0;
            for (int kind = 0; kind < 5; kind++) {
                boolean fits = kinds[how - 1].indexOf('0' + kind) >= 0;
                script.append("mask(0, " + kind + ", " + how + ", " + number + ") -> " + (fits ? "0" : "BAD") + ";");
                script.append("about(0, " + kind + ", 12) -> " + (fits ? how : 0) + ";");
                script.append("about(0, " + kind + ", 13) -> " + (fits ? number : 0) + ";");
                script.append("mask(0, " + kind + ", 0, 0) -> 0; about(0, " + kind + ", 12) -> 0; about(0, " + kind + ", 13) -> 0;");
            }
            edges.hold(8, sentences[how - 1], script.toString());
        }
        edges.hold(8, "BAD: how is not one of its KIND", ALL_KINDS + """
            mask(0, 0, -1, 0) -> BAD; mask(0, 0, 6, 0) -> BAD; mask(0, 0, MAX, 0) -> BAD; mask(0, 0, MISSING, 0) -> BAD
            mask(0, 1, -1, 0) -> BAD; mask(0, 1, 6, 0) -> BAD; mask(0, 2, -1, 0) -> BAD; mask(0, 2, 6, 0) -> BAD
            mask(0, 3, -1, 0) -> BAD; mask(0, 3, 6, 0) -> BAD; mask(0, 4, -1, 0) -> BAD; mask(0, 4, 6, 0) -> BAD
            mask(0, 4, 4, 3) -> 0; mask(0, 4, 2, 0) -> BAD; about(0, 4, 12) -> 4; about(0, 4, 13) -> 3
            """);
        edges.hold(8, "NONE there is no such TABLE, COLUMN", ALL_KINDS + """
            mask(-1, 0, 0, 0) -> NONE; mask(2, 0, 0, 0) -> NONE; mask(MAX, 0, 0, 0) -> NONE; mask(MISSING, 0, 0, 0) -> NONE
            mask(0, -1, 0, 0) -> NONE; mask(0, 5, 0, 0) -> NONE; mask(0, MAX, 0, 0) -> NONE; mask(0, MISSING, 0, 0) -> NONE
            mask(1, 1, 0, 0) -> NONE; mask(1, 0, 1, 0) -> 0; mask(0, 4, 1, 0) -> 0
            """);
    }

    private static void maskNumbers() {
        edges.hold(8, "by a WIDTH (1 .. 1000)", ALL_KINDS + """
            mask(0, 2, 3, 0) -> BAD; mask(0, 2, 3, -1) -> BAD; mask(0, 2, 3, 1001) -> BAD; mask(0, 2, 3, MAX) -> BAD; mask(0, 2, 3, MISSING) -> BAD
            about(0, 2, 12) -> 0; mask(0, 2, 3, 1) -> 0; about(0, 2, 13) -> 1; mask(0, 2, 3, 1000) -> 0; about(0, 2, 13) -> 1000
            mask(0, 3, 3, 0) -> BAD; mask(0, 3, 3, 1001) -> BAD; mask(0, 3, 3, 1000) -> 0; mask(0, 3, 3, 1) -> 0; mask(0, 3, 3, 1001) -> BAD
            about(0, 3, 12) -> 3; about(0, 3, 13) -> 1
            """);
        edges.hold(8, "by s (0 .. 11)", ALL_KINDS + """
            mask(0, 4, 4, -1) -> BAD; mask(0, 4, 4, 12) -> BAD; mask(0, 4, 4, MAX) -> BAD; mask(0, 4, 4, MISSING) -> BAD; about(0, 4, 12) -> 0
            mask(0, 4, 4, 11) -> 0; about(0, 4, 13) -> 11; mask(0, 4, 4, 0) -> 0; about(0, 4, 13) -> 0; about(0, 4, 12) -> 4
            """);
        edges.hold(8, "(WIDTH of COARSE, s of DEAL, else 0)", ALL_KINDS + """
            mask(0, 0, 0, 1) -> BAD; mask(0, 0, 0, -1) -> BAD; mask(0, 0, 1, 1) -> BAD; mask(0, 0, 1, -1) -> BAD
            mask(0, 1, 0, 1) -> BAD; mask(0, 1, 5, 1) -> BAD; mask(0, 1, 5, -1) -> BAD
            mask(0, 2, 2, 1) -> BAD; mask(0, 2, 2, -1) -> BAD; mask(0, 2, 5, 10) -> BAD; mask(0, 3, 5, 10) -> BAD
            mask(0, 4, 1, 1) -> BAD; mask(0, 4, 5, MAX) -> BAD; mask(0, 4, 0, MISSING) -> BAD
            mask(0, 3, 3, 10) -> 0; mask(0, 3, 0, 10) -> BAD; about(0, 3, 12) -> 3; mask(0, 3, 0, 0) -> 0; about(0, 3, 13) -> 0
            """);
    }

    private static void keyDials() {
        edges.hold(9, "a and b of digit i (4 .. 1) of a TABLE's KEY (c 0)", ALL_KINDS + """
            dial(0, 0, 0, 1, 0) -> NONE; dial(0, 0, 5, 1, 0) -> NONE; dial(0, 0, -1, 1, 0) -> NONE
            dial(0, 0, MAX, 1, 0) -> NONE; dial(0, 0, MISSING, 1, 0) -> NONE; turned(0, 0, 0) -> 0
            dial(0, 0, 4, 1, 1) -> 0; turned(0, 0, 0) -> 10001; dial(0, 0, 4, 1, 0) -> 0
            dial(0, 0, 3, 1, 1) -> 0; turned(0, 0, 0) -> 1002; dial(0, 0, 3, 1, 0) -> 0
            dial(0, 0, 2, 1, 1) -> 0; turned(0, 0, 0) -> 103; dial(0, 0, 2, 1, 0) -> 0
            dial(0, 0, 1, 1, 1) -> 0; turned(0, 0, 0) -> 14; turned(1, 0, 0) -> 0
            """);
        edges.hold(9, "by a (1, 3, 7, 9) and b (0 .. 9) of the TABLE for that digit (1 and 0 at first)", ALL_KINDS + """
            turned(0, 0, 14) -> 14; turned(0, 0, 12340) -> 12340; turned(0, 0, 99990) -> 99990
            dial(0, 0, 1, 0, 0) -> BAD; dial(0, 0, 1, 2, 0) -> BAD; dial(0, 0, 1, 4, 0) -> BAD; dial(0, 0, 1, 5, 0) -> BAD
            dial(0, 0, 1, 6, 0) -> BAD; dial(0, 0, 1, 8, 0) -> BAD; dial(0, 0, 1, 10, 0) -> BAD; dial(0, 0, 1, 11, 0) -> BAD
            dial(0, 0, 1, -1, 0) -> BAD; dial(0, 0, 1, -9, 0) -> BAD; dial(0, 0, 1, 13, 0) -> BAD
            dial(0, 0, 1, MAX, 0) -> BAD; dial(0, 0, 1, MISSING, 0) -> BAD
            dial(0, 0, 1, 1, -1) -> BAD; dial(0, 0, 1, 1, 10) -> BAD; dial(0, 0, 1, 1, MAX) -> BAD; dial(0, 0, 1, 1, MISSING) -> BAD
            turned(0, 0, 14) -> 14
            dial(0, 0, 1, 3, 0) -> 0; turned(0, 0, 14) -> 32; dial(0, 0, 1, 7, 0) -> 0; turned(0, 0, 14) -> 78
            dial(0, 0, 1, 9, 0) -> 0; turned(0, 0, 14) -> 96; dial(0, 0, 1, 1, 0) -> 0; turned(0, 0, 14) -> 14
            dial(0, 0, 1, 1, 9) -> 0; turned(0, 0, 14) -> 0; turned(0, 0, 0) -> 96
            dial(0, 0, 1, 3, 10) -> BAD; dial(0, 0, 1, 5, 3) -> BAD; turned(0, 0, 0) -> 96
            """);
        edges.hold(9, "NONE there is no such TABLE, COLUMN", ALL_KINDS + """
            dial(-1, 0, 1, 1, 0) -> NONE; dial(2, 0, 1, 1, 0) -> NONE; dial(MAX, 0, 1, 1, 0) -> NONE; dial(MISSING, 0, 1, 1, 0) -> NONE
            dial(0, -1, 0, 1, 0) -> NONE; dial(0, 5, 0, 1, 0) -> NONE; dial(0, MAX, 0, 1, 0) -> NONE; dial(1, 1, 0, 1, 0) -> NONE
            dial(1, 0, 1, 1, 1) -> 0; turned(0, 0, 0) -> 0; turned(1, 0, 0) -> 14
            """);
        edges.hold(9, "(A COLUMN of another KIND: NONE.)", ALL_KINDS + """
            dial(0, 1, 0, 1, 0) -> NONE; dial(0, 2, 0, 1, 0) -> NONE; dial(0, 3, 0, 1, 0) -> NONE; dial(0, 4, 0, 1, 0) -> 0
            dial(0, 1, 1, 1, 0) -> NONE; dial(0, 1, 4, 1, 0) -> NONE; dial(0, 2, 1, 1, 0) -> NONE; dial(0, 3, 4, 1, 0) -> NONE
            """);
    }

    private static void nameDials() {
        edges.hold(9, "of a NAME COLUMN c (i 0)", ALL_KINDS + """
            dial(0, 4, 1, 3, 1) -> NONE; dial(0, 4, -1, 3, 1) -> NONE; dial(0, 4, 4, 3, 1) -> NONE; dial(0, 4, MAX, 3, 1) -> NONE
            turned(0, 4, 5) -> 5; dial(0, 4, 0, 3, 1) -> 0; turned(0, 4, 5) -> 16
            """);
        StringBuilder script = new StringBuilder(ALL_KINDS + "turned(0, 4, 1) -> 1;");
        for (int a = -3; a <= 103; a++) {
            boolean fits = a >= 1 && a <= 99 && a % 2 != 0 && a % 5 != 0;
            script.append("dial(0, 4, 0, " + a + ", 0) -> " + (fits ? "0" : "BAD") + ";");
            if (fits) script.append("turned(0, 4, 1) -> " + a + ";");
        }
        edges.hold(9, "by a (1 .. 99, odd, no multiple of 5)", script.toString());
        edges.hold(9, "b (0 .. 99) of the COLUMN (1 and 0 at first)", """
            table(); column(0, 4, 0); column(0, 4, 0); turned(0, 1, 0) -> 0; turned(0, 1, 99) -> 99; turned(0, 2, 57) -> 57
            dial(0, 1, 0, 1, -1) -> BAD; dial(0, 1, 0, 1, 100) -> BAD; dial(0, 1, 0, 1, MAX) -> BAD; dial(0, 1, 0, 1, MISSING) -> BAD
            dial(0, 1, 0, MAX, 0) -> BAD; dial(0, 1, 0, MISSING, 0) -> BAD; turned(0, 1, 1) -> 1
            dial(0, 1, 0, 1, 99) -> 0; turned(0, 1, 0) -> 99; turned(0, 2, 0) -> 0
            dial(0, 2, 0, 7, 20) -> 0; turned(0, 1, 5) -> 4; turned(0, 2, 5) -> 55
            dial(0, 1, 0, 1, 0) -> 0; turned(0, 1, 5) -> 5; turned(0, 0, 0) -> 0
            """);
    }

    private static void seeds() {
        edges.hold(10, "SEED the told one (0 .. 60; 0 at first)", """
            all(3) -> 0; seed(-1) -> BAD; seed(61) -> BAD; seed(MAX) -> BAD; seed(MISSING) -> BAD; all(3) -> 0; shift(0) -> -30
            seed(60) -> 0; all(3) -> 60; shift(0) -> 30; seed(61) -> BAD; seed(-1) -> BAD; all(3) -> 60
            seed(0) -> 60; seed(1) -> 0; shift(0) -> -29; seed(1) -> 1
            """);
    }

    private static void turnedKeys() {
        edges.hold(18, "its digits d4 to d1 each become a x + b modulo 10", """
            table(); dial(0, 0, 4, 9, 9); dial(0, 0, 3, 9, 9); dial(0, 0, 2, 9, 9); dial(0, 0, 1, 9, 9)
            turned(0, 0, 0) -> 99990; turned(0, 0, 99990) -> 0; turned(0, 0, 10001) -> 89999; turned(0, 0, 1002) -> 98998
            turned(0, 0, 103) -> 99897; turned(0, 0, 14) -> 99986
            dial(0, 0, 4, 7, 3); turned(0, 0, 10001) -> 9991; turned(0, 0, 0) -> 39994
            """);
        edges.hold(18, "d0 becomes the right figure", """
            table(); dial(0, 0, 1, 1, 3); turned(0, 0, 0) -> 32; turned(0, 0, 12340) -> 12372; turned(0, 0, 64) -> 96; turned(0, 0, 78) -> 0
            mask(0, 0, 1, 0); fill(0, 78); make(); at(0, 0, 0, 1) -> 0; at(0, 0, 0, 0) -> 78
            """);
    }

    private static void turnedNames() {
        edges.hold(18, "Of a NAME: a x + b modulo 100", """
            table(); column(0, 4, 0); dial(0, 1, 0, 99, 99)
            turned(0, 1, 0) -> 99; turned(0, 1, 1) -> 98; turned(0, 1, 98) -> 1; turned(0, 1, 99) -> 0
            dial(0, 1, 0, 3, 1); turned(0, 1, 32) -> 97; turned(0, 1, 33) -> 0; turned(0, 1, 34) -> 3; turned(0, 1, 66) -> 99; turned(0, 1, 67) -> 2
            mask(0, 1, 1, 0); fill(0, 0, 33); fill(0, 14, MISSING); make(); at(0, 0, 1, 1) -> 0; at(0, 1, 1, 1) -> MISSING
            """);
    }

    private static void turnedRefusals() {
        edges.hold(18, "BAD: v is none.", ALL_KINDS + """
            turned(0, 0, 1) -> BAD; turned(0, 0, -1) -> BAD; turned(0, 0, 99999) -> BAD; turned(0, 0, 100000) -> BAD; turned(0, 0, 112340) -> BAD
            turned(0, 0, -14) -> BAD; turned(0, 0, MAX) -> BAD; turned(0, 0, MISSING) -> BAD; turned(0, 0, 0) -> 0; turned(0, 0, 99990) -> 99990
            turned(0, 4, -1) -> BAD; turned(0, 4, 100) -> BAD; turned(0, 4, MAX) -> BAD; turned(0, 4, MISSING) -> BAD
            turned(0, 4, 0) -> 0; turned(0, 4, 99) -> 99
            """);
        edges.hold(18, "NONE there is no such TABLE, COLUMN", ALL_KINDS + """
            turned(-1, 0, 0) -> NONE; turned(2, 0, 0) -> NONE; turned(MAX, 0, 0) -> NONE; turned(MISSING, 0, 0) -> NONE
            turned(0, -1, 0) -> NONE; turned(0, 5, 0) -> NONE; turned(0, MAX, 0) -> NONE; turned(0, MISSING, 0) -> NONE
            turned(0, 1, 0) -> NONE; turned(0, 2, 0) -> NONE; turned(0, 3, 0) -> NONE; turned(1, 1, 0) -> NONE; turned(1, 0, 0) -> 0
            """);
        edges.hold(18, "What digits and figure make of a KEY number v of a TABLE, or of a NAME of a COLUMN.", ALL_KINDS + """
            dial(0, 0, 1, 1, 1); dial(0, 4, 0, 1, 1); turned(0, 0, 0) -> 14; turned(0, 4, 0) -> 1
            mask(0, 0, 1, 0); mask(0, 4, 5, 0); turned(0, 0, 0) -> 14; turned(0, 4, 0) -> 1; mask(0, 4, 4, 3); turned(0, 4, 99) -> 0
            """);
    }

    private static void shiftNumbers() {
        edges.hold(19, "MISSING: the number has no right figure.", """
            shift(0) -> -30; shift(99990) -> -19; shift(1) -> MISSING; shift(12341) -> MISSING; shift(12340) -> -12
            shift(-1) -> MISSING; shift(99999) -> MISSING; shift(100000) -> MISSING; shift(112340) -> MISSING; shift(-14) -> MISSING
            shift(MAX) -> MISSING; shift(MISSING) -> MISSING
            """);
        edges.hold(19, "(p + SEED + r) modulo 61, less 30", """
            shift(0) -> -30; shift(14) -> -16; shift(28) -> -2; shift(32) -> 2; shift(46) -> 16; shift(50) -> 20
            shift(64) -> -27; shift(78) -> -13; seed(30); shift(0) -> 0; shift(28) -> 28; shift(32) -> -29
            seed(46); shift(14) -> 30; seed(47); shift(14) -> -30; seed(60); shift(0) -> 30; shift(14) -> -17
            """);
    }

    /** A DAY that just stays and the next one that does not, at both ends. */
    private static void shiftsThatStay() {
        String sentence = "by which all DAYS of that PERSON in COLUMNS with SHIFT stay 0 .. 9999";
        edges.hold(19, sentence, SHIFTED_DAYS + "fill(0, 0, 30); shift(0) -> -30; make() -> 100; at(0, 0, 1, 1) -> 0; at(0, 0, 1, 0) -> 30");
        edges.hold(19, sentence, SHIFTED_DAYS + "fill(0, 0, 29); shift(0) -> -29; make() -> 100; at(0, 0, 1, 1) -> 0");
        edges.hold(19, sentence, SHIFTED_DAYS + "fill(0, 0, 1); shift(0) -> -1; make() -> 100; at(0, 0, 1, 1) -> 0");
        edges.hold(19, sentence, SHIFTED_DAYS + "fill(0, 0, 0); shift(0) -> 0; make() -> 100; at(0, 0, 1, 1) -> 0");
        edges.hold(19, sentence, SHIFTED_DAYS + "fill(0, 0, 9969); seed(60); shift(0) -> 30; make() -> 100; at(0, 0, 1, 1) -> 9999");
        edges.hold(19, sentence, SHIFTED_DAYS + "fill(0, 0, 9970); seed(60); shift(0) -> -30; make() -> 100; at(0, 0, 1, 1) -> 9940");
        edges.hold(19, sentence, SHIFTED_DAYS + "fill(0, 0, 9999); seed(30); shift(0) -> 0; make(); at(0, 0, 1, 1) -> 9999");
        edges.hold(19, sentence, SHIFTED_DAYS + "fill(0, 0, 9999); seed(31); shift(0) -> -30; make(); at(0, 0, 1, 1) -> 9969");
        edges.hold(19, sentence, SHIFTED_DAYS + "fill(0, 0, 9998); seed(31); shift(0) -> 1; make(); at(0, 0, 1, 1) -> 9999");
        edges.hold(19, "in COLUMNS with SHIFT", """
            table(); column(0, 2, 0); column(0, 2, 0); column(0, 2, 0); column(0, 2, 0); fill(0, 0, 5, 6, 7, MISSING); shift(0) -> -30
            mask(0, 4, 2, 0); shift(0) -> -30; mask(0, 3, 2, 0); shift(0) -> -7; mask(0, 1, 3, 10); shift(0) -> -7
            mask(0, 2, 2, 0); shift(0) -> -6; mask(0, 1, 5, 0); shift(0) -> -6; mask(0, 1, 2, 0); shift(0) -> -5
            make() -> 100; at(0, 0, 1, 1) -> 0; at(0, 0, 2, 1) -> 1; at(0, 0, 3, 1) -> 2; at(0, 0, 4, 1) -> MISSING
            mask(0, 1, 0, 0); shift(0) -> -6; at(0, 0, 2, 1) -> 1; make(); at(0, 0, 1, 1) -> 5; at(0, 0, 2, 1) -> 0
            """);
    }

    private static void shiftsThatGoAround() {
        String sentence = "for r from 0 on the first";
        String twoDays = "table(); column(0, 2, 0); column(0, 2, 0); mask(0, 1, 2, 0); mask(0, 2, 2, 0);";
        edges.hold(19, sentence, twoDays + """
            fill(0, 0, 0, 9999); shift(0) -> 0; seed(1); shift(0) -> 0; seed(29); shift(0) -> 0; seed(30); shift(0) -> 0
            seed(31); shift(0) -> 0; seed(59); shift(0) -> 0; seed(60); shift(0) -> 0; make(); at(0, 0, 1, 1) -> 0; at(0, 0, 2, 1) -> 9999
            """);
        edges.hold(19, sentence, twoDays + """
            fill(0, 0, 9999, 1); shift(0) -> -1; seed(29); shift(0) -> -1; seed(30); shift(0) -> 0; seed(31); shift(0) -> -1
            seed(60); shift(0) -> -1; make(); at(0, 0, 1, 1) -> 9998; at(0, 0, 2, 1) -> 0
            """);
        edges.hold(19, sentence, twoDays + """
            fill(0, 0, 0, 9998); shift(0) -> 0; seed(30); shift(0) -> 0; seed(31); shift(0) -> 1; seed(32); shift(0) -> 0
            seed(60); shift(0) -> 0; seed(31); make(); at(0, 0, 1, 1) -> 1; at(0, 0, 2, 1) -> 9999
            """);
    }

    private static void shiftsOfPersons() {
        edges.hold(19, "let p be the PERSON's (true) number", SHIFTED_DAYS + """
            mask(0, 0, 1, 0); dial(0, 0, 1, 1, 1); fill(0, 0, 500); fill(0, 14, 500); shift(0) -> -30; shift(14) -> -16
            make(); at(0, 0, 0, 1) -> 14; at(0, 0, 1, 1) -> 470; at(0, 1, 0, 1) -> 28; at(0, 1, 1, 1) -> 484
            """);
        edges.hold(19, "a DAY becomes so much more as is told for its ROW's PERSON", SHIFTED_DAYS + """
            fill(0, 0, 3); fill(0, 14, 9999); fill(0, 28, 1); fill(0, 32, MISSING); shift(0) -> -3; shift(14) -> -16; shift(28) -> -1; shift(32) -> 2
            make(); at(0, 0, 1, 1) -> 0; at(0, 1, 1, 1) -> 9983; at(0, 2, 1, 1) -> 0; at(0, 3, 1, 1) -> MISSING
            """);
    }

    private static void shiftsWithoutOwner() {
        edges.hold(19, "(by 0, if the ROW has no OWNER)", """
            table(); column(0, 1, 0); column(0, 2, 0); mask(0, 2, 2, 0); owner(0, 1)
            fill(0, 0, MISSING, 0); fill(0, 14, MISSING, 9999); fill(0, 28, MISSING, 500); fill(0, 32, 0, 500); fill(0, 46, MISSING, MISSING)
            shift(0) -> -30; shift(14) -> -16; shift(28) -> -2; shift(MISSING) -> MISSING
            make(); at(0, 0, 2, 1) -> 0; at(0, 1, 2, 1) -> 9999; at(0, 2, 2, 1) -> 500; at(0, 3, 2, 1) -> 470; at(0, 4, 2, 1) -> MISSING
            seed(60); make(); at(0, 2, 2, 1) -> 500; at(0, 3, 2, 1) -> 530
            """);
        edges.hold(19, "(by 0, if the ROW has no OWNER)", """
            table(); column(0, 1, 0); column(0, 2, 0); mask(0, 2, 2, 0); owner(0, 1); fill(0, 0, MISSING, 500); fill(0, 14, MISSING, 5000)
            make(); at(0, 0, 2, 1) -> 500; at(0, 1, 2, 1) -> 5000; seed(29); make(); at(0, 0, 2, 1) -> 500; seed(31); make(); at(0, 0, 2, 1) -> 500
            seed(60); make(); at(0, 0, 2, 1) -> 500; at(0, 1, 2, 1) -> 5000; owner(0, 0); make(); at(0, 0, 2, 1) -> 530; at(0, 1, 2, 1) -> 4983
            """);
    }

    private static void coarseNumbers() {
        String sums = "table(); column(0, 3, 0); fill(0, 0, -9999); fill(0, 14, -1001); fill(0, 28, -1000); fill(0, 32, -1); fill(0, 46, 0);"
            + "fill(0, 50, 1); fill(0, 64, 999); fill(0, 78, 1000); fill(0, 82, 1999); fill(0, 96, 9999);";
        String sentence = "COARSE: the greatest multiple of WIDTH that is not above it.";
        edges.hold(16, sentence, sums + "mask(0, 1, 3, 1000); make();" + column(-10000, -2000, -1000, -1000, 0, 0, 0, 1000, 1000, 9000));
        edges.hold(16, sentence, sums + "mask(0, 1, 3, 1); make();" + column(-9999, -1001, -1000, -1, 0, 1, 999, 1000, 1999, 9999));
        edges.hold(16, sentence, sums + "mask(0, 1, 3, 7); make();" + column(-10003, -1001, -1001, -7, 0, 0, 994, 994, 1995, 9996));
        edges.hold(16, sentence, sums + "mask(0, 1, 3, 2); make();" + column(-10000, -1002, -1000, -2, 0, 0, 998, 1000, 1998, 9998));
        edges.hold(16, sentence, """
            table(); column(0, 2, 0); mask(0, 1, 3, 10); fill(0, 0, 0); fill(0, 14, 9); fill(0, 28, 10); fill(0, 32, 9999); make();
            """ + column(0, 0, 10, 9990));
    }

    private static String column(int... want) {
        StringBuilder text = new StringBuilder();
        for (int r = 0; r < want.length; r++) text.append("at(0, " + r + ", 1, 1) -> " + want[r] + ";");
        return text.toString();
    }

    private static void deals() {
        String sentence = "DEAL: what ROW (i + s) modulo (how many ROWS there are) has, of ROW i.";
        edges.hold(16, sentence, """
            table(); column(0, 4, 0); mask(0, 1, 4, 11); make() -> 100; fill(0, 0, 7); make(); at(0, 0, 1, 1) -> 7
            mask(0, 1, 4, 0); make(); at(0, 0, 1, 1) -> 7; mask(0, 1, 4, 1); make(); at(0, 0, 1, 1) -> 7
            fill(0, 14, MISSING); make(); at(0, 0, 1, 1) -> MISSING; at(0, 1, 1, 1) -> 7
            mask(0, 1, 4, 2); make(); at(0, 0, 1, 1) -> 7; at(0, 1, 1, 1) -> MISSING
            fill(0, 28, 9); make(); at(0, 0, 1, 1) -> 9; at(0, 1, 1, 1) -> 7; at(0, 2, 1, 1) -> MISSING; at(0, 0, 1, 0) -> 7
            """);
        String full = "table(); column(0, 4, 0); fill(0, 0, 0); fill(0, 14, 1); fill(0, 28, 2); fill(0, 32, 3); fill(0, 46, 4); fill(0, 50, 5);"
            + "fill(0, 64, 6); fill(0, 78, 7); fill(0, 82, 8); fill(0, 96, 9); fill(0, 103, 10);";
        edges.hold(16, sentence, full + "mask(0, 1, 4, 11); make();" + column(0, 1, 2, 3, 4, 5, 6, 7, 8, 9, 10));
        edges.hold(16, sentence, full + "fill(0, 1002, 11); mask(0, 1, 4, 11); make();" + column(11, 0, 1, 2, 3, 4, 5, 6, 7, 8, 9, 10));
        edges.hold(16, sentence, full + "fill(0, 1002, 11); mask(0, 1, 4, 0); make();" + column(0, 1, 2, 3, 4, 5, 6, 7, 8, 9, 10, 11));
    }

    private static void blots() {
        edges.hold(16, "BLOT: MISSING.", ALL_KINDS + """
            fill(0, 0, 14, 5, 6, 7); mask(0, 1, 5, 0); mask(0, 2, 5, 0); mask(0, 3, 5, 0); mask(0, 4, 5, 0); make()
            at(0, 0, 0, 1) -> 0; at(0, 0, 1, 1) -> MISSING; at(0, 0, 2, 1) -> MISSING; at(0, 0, 3, 1) -> MISSING; at(0, 0, 4, 1) -> MISSING
            at(0, 0, 1, 0) -> 14; at(0, 0, 2, 0) -> 5; at(0, 0, 3, 0) -> 6; at(0, 0, 4, 0) -> 7
            """);
    }

    private static void turnedRefs() {
        edges.hold(16, "A REF that is not BLOT is turned as the KEY of its TABLE is.", """
            table(); table(); column(0, 1, 1); column(0, 1, 0); column(0, 1, 1); dial(0, 0, 1, 1, 1); dial(1, 0, 2, 1, 1)
            fill(0, 0, 0, 0, 0); make(); at(0, 0, 0, 1) -> 0; at(0, 0, 1, 1) -> 0; at(0, 0, 2, 1) -> 0
            mask(0, 0, 1, 0); make(); at(0, 0, 0, 1) -> 14; at(0, 0, 1, 1) -> 0; at(0, 0, 2, 1) -> 14; at(0, 0, 3, 1) -> 0
            mask(1, 0, 1, 0); make(); at(0, 0, 0, 1) -> 14; at(0, 0, 1, 1) -> 103; at(0, 0, 2, 1) -> 14; at(0, 0, 3, 1) -> 103
            mask(0, 3, 5, 0); make(); at(0, 0, 1, 1) -> 103; at(0, 0, 3, 1) -> MISSING
            mask(0, 0, 0, 0); make(); at(0, 0, 0, 1) -> 0; at(0, 0, 1, 1) -> 103; at(0, 0, 2, 1) -> 0
            """);
    }

    private static void missingOnes() {
        edges.hold(16, "MISSING ones stay so (but for DEAL).", """
            table(); column(0, 1, 0); column(0, 2, 0); column(0, 2, 0); column(0, 3, 0); column(0, 4, 0); mask(0, 0, 1, 0); dial(0, 0, 1, 3, 1)
            fill(0, 0, MISSING, MISSING, MISSING, MISSING, MISSING); fill(0, 14, 0, 1, 2, 3, 4)
            make(); at(0, 0, 1, 1) -> MISSING; at(0, 0, 2, 1) -> MISSING; at(0, 0, 5, 1) -> MISSING
            mask(0, 2, 2, 0); mask(0, 3, 3, 10); mask(0, 4, 3, 10); mask(0, 5, 1, 0); make()
            at(0, 0, 2, 1) -> MISSING; at(0, 0, 3, 1) -> MISSING; at(0, 0, 4, 1) -> MISSING; at(0, 0, 5, 1) -> MISSING
            mask(0, 5, 4, 1); make(); at(0, 0, 5, 1) -> 4; at(0, 1, 5, 1) -> MISSING
            """);
    }
}
