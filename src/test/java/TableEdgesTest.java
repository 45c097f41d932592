/** What the document says of the edges of promises 1 to 6, 28 and 29, a script for each sentence. */
public final class TableEdgesTest {
    private static final Edges edges = new Edges();
    private static final String TWELVE_ROWS = Edges.twelveRows(0, "");

    public static void main(String[] args) {
        newObject();
        newBesideOthers();
        tables();
        columnNumbers();
        columnKinds();
        columnTargets();
        columnsOfTablesWithRows();
        cells();
        rowNumbers();
        rowLengths();
        keyNumbers();
        keysOnce();
        refNumbers();
        dayNumbers();
        sumNumbers();
        nameNumbers();
        refusedRows();
        wipes();
        aboutTables();
        aboutColumns();
        allOfIt();
        fullObject();
        lastCall();
        edges.end();
    }

    private static void newObject() {
        edges.hold(1, "No TABLES, no RULES, SEED 0.", """
            all(0) -> 0; all(1) -> 0; all(2) -> 0; all(3) -> 0; all(4) -> 0
            about(0, 0, 0) -> NONE; at(0, 0, 0, 0) -> MISSING; at(0, 0, 0, 1) -> MISSING
            column(0, 2, 0) -> NONE; column(0, 1, 0) -> NONE; row(0) -> NONE; owner(0, 0) -> NONE
            mask(0, 0, 0, 0) -> NONE; dial(0, 0, 1, 1, 0) -> NONE
            order(0, 0, 0) -> NONE; agree(0, 0, 0, 0, 0, 0) -> NONE; found(0, 0) -> NONE
            broken(0) -> 100; broken(1) -> STATE; turned(0, 0, 0) -> NONE; shift(0) -> -30
            count(0, 0, 0, 0) -> NONE; joins(0, 0, 0) -> NONE; miss(0, 0) -> NONE
            could(0, 0, 0) -> NONE; alike(0, 0) -> NONE; sure(0, 0, 0, 0) -> NONE; loss(0, 0) -> NONE
            best(0, 0, 1) -> NONE
            wipe() -> 0; unrule() -> 0; seed(0) -> 0
            make() -> 100; all(4) -> 1; broken(1) -> 100
            """);
    }

    /** What one object is told is no other object's. */
    private static void newBesideOthers() {
        MaskedCopies full = new MaskedCopies();
        for (Call call : Call.parse("table(); column(0, 1, 0); fill(0, 0, 0); found(0, 1); seed(9); make(); cell(0)")) call.on(full);
        newObject();
        edges.hold(1, "No TABLES, no RULES, SEED 0.", "all(0) -> 0; all(1) -> 0; all(2) -> 0; all(3) -> 0; all(4) -> 0");
        for (Call call : Call.parse("all(0); all(1); all(2); all(4)"))
            if (call.on(full) != 1) throw new IllegalStateException("another object changed " + call.text);
    }

    private static void tables() {
        edges.hold(2, "TABLES are numbered from 0 on, 4 at most", """
            all(0) -> 0
            table() -> 0; all(0) -> 1; about(0, 0, 0) -> 1; about(1, 0, 0) -> NONE
            table() -> 1; table() -> 2; all(0) -> 3; about(3, 0, 0) -> NONE
            table() -> 3; all(0) -> 4; about(3, 0, 0) -> 1
            table() -> FULL; all(0) -> 4; about(4, 0, 0) -> NONE; about(-1, 0, 0) -> NONE
            table() -> FULL; all(0) -> 4
            """);
        edges.hold(2, "A TABLE more, with a KEY COLUMN: its number.", """
            table() -> 0; column(0, 2, 0) -> 1; fill(0, 0, 5) -> 0
            table() -> 1
            about(1, 0, 0) -> 1; about(1, 0, 10) -> 0; about(1, 0, 12) -> 0; about(1, 0, 13) -> 0
            about(1, 0, 1) -> 0; about(1, 0, 2) -> 0; about(1, 1, 10) -> NONE
            fill(1, 0) -> 0
            """);
        edges.hold(2, "till table(), column(), row() that was not", """
            table(); make() -> 100; all(4) -> 1; table() -> 1; all(4) -> 0; at(0, 0, 0, 1) -> MISSING; broken(1) -> STATE
            table(); table(); make() -> 100; table() -> FULL; all(4) -> 1; broken(1) -> 100
            """);
    }

    private static void columnNumbers() {
        edges.hold(3, "COLUMNS, numbered from 0 on, 6 at most", """
            table(); table(); about(0, 0, 0) -> 1
            column(0, 2, 0) -> 1; column(0, 3, 0) -> 2; column(0, 4, 0) -> 3; column(0, 1, 1) -> 4; about(0, 0, 0) -> 5
            column(0, 2, 0) -> 5; about(0, 0, 0) -> 6; about(0, 5, 10) -> 2; about(0, 6, 10) -> NONE
            column(0, 2, 0) -> FULL; column(0, 1, 0) -> FULL; column(0, 3, 0) -> FULL; column(0, 4, 0) -> FULL
            about(0, 0, 0) -> 6; about(1, 0, 0) -> 1; column(1, 2, 0) -> 1
            """);
        edges.hold(3, "NONE there is no such TABLE", """
            column(0, 2, 0) -> NONE
            table()
            column(-1, 2, 0) -> NONE; column(1, 2, 0) -> NONE; column(MAX, 2, 0) -> NONE; column(MISSING, 2, 0) -> NONE
            column(0, 2, 0) -> 1
            table(); table(); table()
            column(4, 2, 0) -> NONE; column(3, 2, 0) -> 1
            """);
        edges.hold(3, "till table(), column(), row() that was not", """
            table(); fill(0, 0); table(); make(); all(4) -> 1
            column(2, 2, 0) -> NONE; column(1, 1, 2) -> NONE; column(1, 5, 0) -> BAD; column(1, 2, 1) -> BAD; column(0, 2, 0) -> STATE
            all(4) -> 1; at(0, 0, 0, 1) -> 0
            column(1, 2, 0) -> 1; all(4) -> 0; at(0, 0, 0, 1) -> MISSING
            column(1, 2, 0); column(1, 2, 0); column(1, 2, 0); column(1, 2, 0); make(); column(1, 2, 0) -> FULL; all(4) -> 1
            """);
    }

    private static void columnKinds() {
        edges.hold(3, "BAD: kind not 1 .. 4", """
            table()
            column(0, 0, 0) -> BAD; column(0, 5, 0) -> BAD; column(0, -1, 0) -> BAD; column(0, 6, 0) -> BAD
            column(0, MAX, 0) -> BAD; column(0, MISSING, 0) -> BAD; about(0, 0, 0) -> 1
            column(0, 1, 0) -> 1; column(0, 4, 0) -> 2; column(0, 2, 0) -> 3; column(0, 3, 0) -> 4
            about(0, 1, 10) -> 1; about(0, 2, 10) -> 4; about(0, 3, 10) -> 2; about(0, 4, 10) -> 3
            """);
        edges.hold(3, "KEY: COLUMN 0 of each TABLE, and no other", """
            table(); table(); about(0, 0, 10) -> 0; about(1, 0, 10) -> 0
            column(0, 0, 0) -> BAD; column(1, 0, 0) -> BAD; column(1, 0, 1) -> BAD; about(0, 0, 0) -> 1; about(1, 0, 0) -> 1
            """);
        edges.hold(3, "MASKS of COLUMNS: 0 KEEP (at first)", """
            table(); column(0, 1, 0); column(0, 2, 0); column(0, 3, 0); column(0, 4, 0)
            about(0, 0, 12) -> 0; about(0, 1, 12) -> 0; about(0, 2, 12) -> 0; about(0, 3, 12) -> 0; about(0, 4, 12) -> 0
            about(0, 0, 13) -> 0; about(0, 1, 13) -> 0; about(0, 2, 13) -> 0; about(0, 3, 13) -> 0; about(0, 4, 13) -> 0
            """);
    }

    private static void columnTargets() {
        edges.hold(3, "NONE (to, too)", """
            table(); column(0, 1, 1) -> NONE; column(0, 1, -1) -> NONE; column(0, 1, MAX) -> NONE; column(0, 1, MISSING) -> NONE
            about(0, 0, 0) -> 1; column(0, 1, 0) -> 1; about(0, 1, 11) -> 0
            table(); column(0, 1, 2) -> NONE; column(0, 1, 1) -> 2; about(0, 2, 11) -> 1
            table(); table(); column(0, 1, 4) -> NONE; column(0, 1, 3) -> 3; about(0, 3, 11) -> 3
            column(3, 1, 0) -> 1; about(3, 1, 11) -> 0
            """);
        edges.hold(3, "to not 0 as told", """
            table(); table()
            column(0, 2, 1) -> BAD; column(0, 3, 1) -> BAD; column(0, 4, 1) -> BAD
            column(0, 2, -1) -> BAD; column(0, 3, -1) -> BAD; column(0, 4, -1) -> BAD
            column(0, 2, MAX) -> BAD; column(0, 3, MISSING) -> BAD; column(0, 4, 4) -> BAD; about(0, 0, 0) -> 1
            column(0, 2, 0) -> 1; column(0, 3, 0) -> 2; column(0, 4, 0) -> 3
            about(0, 1, 11) -> NONE; about(0, 2, 11) -> NONE; about(0, 3, 11) -> NONE
            """);
    }

    private static void columnsOfTablesWithRows() {
        edges.hold(3, "STATE: the TABLE has ROWS", """
            table(); table(); column(0, 1, 1) -> 1; cell(0); cell(0); column(0, 2, 0) -> 2; cell(0)
            row(0) -> 0
            column(0, 1, 1) -> STATE; column(0, 2, 0) -> STATE; column(0, 3, 0) -> STATE; column(0, 4, 0) -> STATE
            about(0, 0, 0) -> 3
            column(1, 1, 0) -> 1; column(1, 2, 0) -> 2
            """);
    }

    private static void cells() {
        edges.hold(4, "FULL: 6.", """
            all(2) -> 0
            cell(0) -> 1; cell(1) -> 2; cell(2) -> 3; cell(3) -> 4; cell(4) -> 5; all(2) -> 5
            cell(5) -> 6; all(2) -> 6
            cell(6) -> FULL; cell(0) -> FULL; cell(MISSING) -> FULL; cell(MAX) -> FULL; all(2) -> 6; wipe() -> 6
            """);
        edges.hold(4, "A CELL comes for the next ROW (MISSING as that number): how many wait.", """
            cell(MISSING) -> 1; cell(MAX) -> 2; cell(-2147483647) -> 3; cell(-1) -> 4; wipe() -> 4
            cell(14) -> 1; table(); cell(7) -> 2; column(0, 2, 0); make(); cell(MISSING) -> 3; column(0, 4, 0)
            row(0) -> 0; at(0, 0, 0, 0) -> 14; at(0, 0, 1, 0) -> 7; at(0, 0, 2, 0) -> MISSING
            cell(0) -> 1
            """);
        edges.hold(4, "They change nothing.", """
            table(); column(0, 2, 0); column(0, 2, 0); column(0, 2, 0); column(0, 2, 0); column(0, 2, 0)
            cell(14) -> 1; cell(1) -> 2; cell(2) -> 3; cell(3) -> 4; cell(4) -> 5; cell(5) -> 6; cell(6) -> FULL; row(0) -> 0
            at(0, 0, 0, 0) -> 14; at(0, 0, 1, 0) -> 1; at(0, 0, 4, 0) -> 4; at(0, 0, 5, 0) -> 5
            """);
    }

    private static void rowNumbers() {
        edges.hold(5, "ROWS, numbered from 0 on, 12 at most", "table(); table(); about(0, 0, 1) -> 0;" + TWELVE_ROWS + """
            about(0, 0, 1) -> 12; at(0, 11, 0, 0) -> 1002; at(0, 12, 0, 0) -> MISSING
            fill(0, 10001) -> FULL; about(0, 0, 1) -> 12; all(2) -> 1; row(0) -> FULL
            row(1) -> 0; at(1, 0, 0, 0) -> 10001; about(1, 0, 1) -> 1
            """);
        edges.hold(5, "NONE there is no such TABLE", """
            cell(0); row(0) -> NONE
            table(); row(-1) -> NONE; row(1) -> NONE; row(MAX) -> NONE; row(MISSING) -> NONE; all(2) -> 1; row(0) -> 0
            table(); table(); table(); cell(0); row(4) -> NONE; row(3) -> 0
            """);
        edges.hold(5, "till table(), column(), row() that was not", """
            table(); fill(0, 0); make(); cell(0); row(1) -> NONE; row(0) -> STATE; cell(0); row(0) -> BAD; wipe(); row(0) -> BAD
            all(4) -> 1; at(0, 0, 0, 1) -> 0
            fill(0, 14) -> 1; all(4) -> 0; at(0, 0, 0, 1) -> MISSING; at(0, 0, 0, 0) -> 0
            """);
        edges.hold(5, "till table(), column(), row() that was not", "table();" + TWELVE_ROWS + "make(); cell(10001); row(0) -> FULL; all(4) -> 1");
    }

    private static void rowLengths() {
        edges.hold(5, "BAD: not as many as COLUMNS", """
            table(); row(0) -> BAD; cell(0); cell(14); row(0) -> BAD; wipe() -> 2; fill(0, 0) -> 0
            table(); column(1, 2, 0); column(1, 2, 0)
            row(1) -> BAD; cell(0); row(1) -> BAD; cell(1); row(1) -> BAD; cell(2); cell(3); row(1) -> BAD; all(2) -> 4
            wipe() -> 4; fill(1, 0, 1, 2) -> 0
            table(); column(2, 2, 0); column(2, 2, 0); column(2, 2, 0); column(2, 2, 0); column(2, 2, 0)
            cell(0); cell(1); cell(2); cell(3); cell(4); row(2) -> BAD; cell(5); row(2) -> 0; at(2, 0, 5, 0) -> 5
            """);
    }

    private static void keyNumbers() {
        edges.hold(5, "d0 is d4 + 2 d3 + 3 d2 + 4 d1 modulo 10", """
            table(); cell(12341); row(0) -> BAD; wipe(); cell(12342); row(0) -> BAD; wipe(); cell(12343); row(0) -> BAD; wipe()
            cell(12344); row(0) -> BAD; wipe(); cell(12345); row(0) -> BAD; wipe(); cell(12346); row(0) -> BAD; wipe()
            cell(12347); row(0) -> BAD; wipe(); cell(12348); row(0) -> BAD; wipe(); cell(12349); row(0) -> BAD; wipe()
            fill(0, 12340) -> 0
            cell(10002); row(0) -> BAD; wipe(); cell(1001); row(0) -> BAD; wipe(); cell(101); row(0) -> BAD; wipe(); cell(11); row(0) -> BAD; wipe()
            fill(0, 10001) -> 1; fill(0, 1002) -> 2; fill(0, 103) -> 3; fill(0, 14) -> 4
            fill(0, 90009) -> 5; fill(0, 9008) -> 6; fill(0, 907) -> 7; fill(0, 96) -> 8; fill(0, 32) -> 9
            """);
        edges.hold(5, "A KEY's number has five digits, d4 (the highest) to d0, 0 .. 9 each", """
            table(); fill(0, 0) -> 0; fill(0, 99990) -> 1
            cell(-1); row(0) -> BAD; wipe(); cell(1); row(0) -> BAD; wipe(); cell(99999); row(0) -> BAD; wipe()
            cell(100000); row(0) -> BAD; wipe(); cell(100014); row(0) -> BAD; wipe(); cell(112340); row(0) -> BAD; wipe()
            cell(-14); row(0) -> BAD; wipe(); cell(-10); row(0) -> BAD; wipe(); cell(MAX); row(0) -> BAD; wipe()
            cell(-2147483647); row(0) -> BAD; wipe(); about(0, 0, 1) -> 2
            """);
        edges.hold(5, "it is never MISSING", """
            table(); cell(MISSING); row(0) -> BAD; about(0, 0, 1) -> 0; wipe()
            column(0, 2, 0); cell(MISSING); cell(3); row(0) -> BAD; about(0, 0, 1) -> 0
            """);
    }

    private static void keysOnce() {
        edges.hold(5, "no two ROWS of a TABLE have one", """
            table(); column(0, 1, 0); table()
            fill(0, 14, 28) -> 0; fill(0, 28, 14) -> 1; fill(0, 32, 32) -> 2
            cell(14); cell(46); row(0) -> STATE; wipe(); cell(32); cell(28); row(0) -> STATE; wipe(); about(0, 0, 1) -> 3
            fill(0, 46, 28) -> 3; fill(1, 14) -> 0; fill(1, 28) -> 1; cell(28); row(1) -> STATE
            """);
    }

    private static void refNumbers() {
        edges.hold(5, "A REF's number is such, too.", """
            table(); column(0, 1, 0)
            cell(0); cell(1); row(0) -> BAD; wipe(); cell(0); cell(12341); row(0) -> BAD; wipe(); cell(0); cell(-1); row(0) -> BAD; wipe()
            cell(0); cell(100000); row(0) -> BAD; wipe(); cell(0); cell(112340); row(0) -> BAD; wipe(); cell(0); cell(MAX); row(0) -> BAD; wipe()
            fill(0, 0, 0) -> 0; fill(0, 14, 99990) -> 1; fill(0, 28, 0) -> 2; fill(0, 32, MISSING) -> 3
            at(0, 1, 1, 0) -> 99990; at(0, 3, 1, 0) -> MISSING
            """);
    }

    private static void dayNumbers() {
        edges.hold(5, "DAY: 0 .. 9999", """
            table(); column(0, 2, 0)
            cell(0); cell(-1); row(0) -> BAD; wipe(); cell(0); cell(10000); row(0) -> BAD; wipe()
            cell(0); cell(MAX); row(0) -> BAD; wipe(); cell(0); cell(-2147483647); row(0) -> BAD; wipe()
            fill(0, 0, 0) -> 0; fill(0, 14, 9999) -> 1; fill(0, 28, MISSING) -> 2
            at(0, 0, 1, 0) -> 0; at(0, 1, 1, 0) -> 9999; at(0, 2, 1, 0) -> MISSING
            """);
    }

    private static void sumNumbers() {
        edges.hold(5, "SUM: -9999 .. 9999", """
            table(); column(0, 3, 0)
            cell(0); cell(-10000); row(0) -> BAD; wipe(); cell(0); cell(10000); row(0) -> BAD; wipe()
            cell(0); cell(MAX); row(0) -> BAD; wipe(); cell(0); cell(-2147483647); row(0) -> BAD; wipe()
            fill(0, 0, -9999) -> 0; fill(0, 14, 9999) -> 1; fill(0, 28, MISSING) -> 2
            at(0, 0, 1, 0) -> -9999; at(0, 1, 1, 0) -> 9999; at(0, 2, 1, 0) -> MISSING
            """);
    }

    private static void nameNumbers() {
        edges.hold(5, "NAME: 0 .. 99", """
            table(); column(0, 4, 0)
            cell(0); cell(-1); row(0) -> BAD; wipe(); cell(0); cell(100); row(0) -> BAD; wipe()
            cell(0); cell(MAX); row(0) -> BAD; wipe(); cell(0); cell(-2147483647); row(0) -> BAD; wipe()
            fill(0, 0, 0) -> 0; fill(0, 14, 99) -> 1; fill(0, 28, MISSING) -> 2
            at(0, 0, 1, 0) -> 0; at(0, 1, 1, 0) -> 99; at(0, 2, 1, 0) -> MISSING
            """);
        edges.hold(5, "one not as its KIND says", """
            table(); column(0, 2, 0); column(0, 3, 0); column(0, 4, 0)
            cell(0); cell(0); cell(0); cell(100); row(0) -> BAD; wipe(); cell(0); cell(0); cell(10000); cell(0); row(0) -> BAD; wipe()
            cell(0); cell(-1); cell(0); cell(0); row(0) -> BAD; wipe(); cell(1); cell(0); cell(0); cell(0); row(0) -> BAD; wipe()
            fill(0, 0, 0, -1, 0) -> 0
            """);
    }

    private static void refusedRows() {
        edges.hold(5, "The CELLS that wait, which do so no more (not, if it is refused)", """
            cell(14); row(0) -> NONE; all(2) -> 1
            table(); column(0, 2, 0); row(0) -> BAD; all(2) -> 1; cell(7) -> 2; row(0) -> 0; all(2) -> 0
            at(0, 0, 0, 0) -> 14; at(0, 0, 1, 0) -> 7; row(0) -> BAD
            cell(14); cell(8); row(0) -> STATE; all(2) -> 2
            table(); column(1, 3, 0); row(1) -> 0; all(2) -> 0; at(1, 0, 0, 0) -> 14; at(1, 0, 1, 0) -> 8
            """);
    }

    private static void wipes() {
        edges.hold(6, "No CELLS wait: how many did.", """
            wipe() -> 0; cell(3) -> 1; wipe() -> 1; all(2) -> 0; wipe() -> 0
            cell(0); cell(0); cell(0); cell(0); cell(0); cell(0); wipe() -> 6; all(2) -> 0; cell(14) -> 1
            table(); make(); wipe() -> 1; all(4) -> 1; row(0) -> BAD; fill(0, 28) -> 0; at(0, 0, 0, 0) -> 28; wipe() -> 0
            """);
    }

    private static void aboutTables() {
        edges.hold(28, "Of a TABLE what 0 COLUMNS, 1 ROWS, 2 its OWNER COLUMN", """
            table(); column(0, 4, 0); column(0, 1, 0); owner(0, 2); fill(0, 0, 1, 0)
            about(0, 0, 0) -> 3; about(0, 0, 1) -> 1; about(0, 0, 2) -> 2
            about(0, 0, -1) -> NONE; about(0, 0, 3) -> NONE; about(0, 0, 9) -> NONE
            about(0, 0, MAX) -> NONE; about(0, 0, MISSING) -> NONE
            about(-1, 0, 0) -> NONE; about(1, 0, 0) -> NONE; about(MAX, 0, 1) -> NONE; about(MISSING, 0, 2) -> NONE
            """);
        edges.hold(28, "(c 0 for what below 10)", """
            table(); column(0, 1, 0); about(0, 1, 0) -> NONE; about(0, 1, 1) -> NONE; about(0, 1, 2) -> NONE
            about(0, -1, 0) -> NONE; about(0, 2, 0) -> NONE; about(0, 1, 10) -> 1
            """);
    }

    private static void aboutColumns() {
        edges.hold(28, "of COLUMN c what 10 KIND, 11 the TABLE of a REF (NONE), 12 MASK, 13 its number", """
            table(); table(); column(0, 1, 1); column(0, 2, 0); column(0, 3, 0); column(0, 4, 0)
            mask(0, 0, 1, 0); mask(0, 1, 5, 0); mask(0, 2, 2, 0); mask(0, 3, 3, 1000); mask(0, 4, 4, 11)
            about(0, 0, 10) -> 0; about(0, 1, 10) -> 1; about(0, 2, 10) -> 2; about(0, 3, 10) -> 3; about(0, 4, 10) -> 4
            about(0, 0, 11) -> NONE; about(0, 1, 11) -> 1; about(0, 2, 11) -> NONE; about(0, 3, 11) -> NONE; about(0, 4, 11) -> NONE
            about(0, 0, 12) -> 1; about(0, 1, 12) -> 5; about(0, 2, 12) -> 2; about(0, 3, 12) -> 3; about(0, 4, 12) -> 4
            about(0, 0, 13) -> 0; about(0, 1, 13) -> 0; about(0, 2, 13) -> 0; about(0, 3, 13) -> 1000; about(0, 4, 13) -> 11
            about(0, 4, 14) -> NONE; about(0, 4, 9) -> NONE; about(0, 4, MAX) -> NONE
            about(0, 5, 10) -> NONE; about(0, -1, 10) -> NONE; about(0, MAX, 12) -> NONE; about(0, MISSING, 13) -> NONE
            about(2, 0, 10) -> NONE; about(-1, 0, 10) -> NONE; about(1, 1, 10) -> NONE; about(1, 0, 12) -> 0
            """);
    }

    private static void allOfIt() {
        edges.hold(29, "0 TABLES, 1 RULES, 2 CELLS that wait, 3 SEED, 4 whether there are MADE TABLES (1, 0). NONE.", """
            table(); table(); column(0, 1, 0); found(0, 1); found(0, 1); found(0, 1); seed(60); cell(0); cell(0); cell(0); cell(0)
            all(0) -> 2; all(1) -> 3; all(2) -> 4; all(3) -> 60; all(4) -> 0; make(); all(4) -> 1
            all(-1) -> NONE; all(5) -> NONE; all(10) -> NONE; all(MAX) -> NONE; all(MISSING) -> NONE
            """);
    }

    private static void fullObject() {
        StringBuilder script = new StringBuilder("table(); table(); table(); table();");
        for (int t = 0; t < 4; t++) script.append("column(T, 2, 0); column(T, 3, 0); column(T, 4, 0); column(T, 4, 0); column(T, 1, 3) -> 5;".replace('T', (char) ('0' + t)));
        for (int t = 0; t < 4; t++) script.append(Edges.twelveRows(t, ", " + (100 + t) + ", -5, 6, 7, 1002"));
        edges.hold(5, "TABLES are numbered from 0 on, 4 at most, each with COLUMNS, numbered from 0 on, 6 at most, and ROWS, numbered from 0 on, 12 at most.", script + """
            at(0, 0, 0, 0) -> 0; at(0, 11, 5, 0) -> 1002; at(1, 0, 1, 0) -> 101; at(2, 11, 1, 0) -> 102; at(3, 0, 0, 0) -> 0; at(3, 11, 5, 0) -> 1002
            at(3, 11, 6, 0) -> MISSING; at(3, 12, 0, 0) -> MISSING; at(4, 0, 0, 0) -> MISSING; table() -> FULL; column(3, 2, 0) -> STATE; joins(3, 5, 0) -> 12
            mask(3, 0, 1, 0); dial(3, 0, 1, 1, 1); make() -> 100; at(3, 11, 0, 1) -> 1016; at(3, 11, 5, 1) -> 1016; at(0, 11, 0, 1) -> 1002; at(0, 11, 5, 1) -> 1016
            joins(0, 5, 1) -> 12; joins(3, 5, 1) -> 12; count(3, 1, 103, 1) -> 12; alike(3, 63) -> 12; alike(0, 1) -> 1; could(0, 11, 62) -> 12
            """);
    }

    private static void lastCall() {
        StringBuilder script = new StringBuilder("table();");
        for (int i = 1; i < 511; i += 2) script.append("cell(").append(i).append(") -> 1; wipe() -> 1;");
        edges.hold(1, "An object is used for at most 512 calls after it has been made", script + "all(0) -> 1");
    }
}
