/** What the document says of the edges of promises 17 and 20 to 22, a script for each sentence. */
public final class LookingEdgesTest {
    private static final Edges edges = new Edges();
    /** TABLE 0: KEY, DAY, SUM, NAME, two ROWS. TABLE 1: KEY, REF to 0, REF to 1, one ROW. TABLE 2: KEY, REF to 0, no ROW. */
    private static final String THREE_TABLES = "table(); table(); table(); column(0, 2, 0); column(0, 3, 0); column(0, 4, 0);"
        + "column(1, 1, 0); column(1, 1, 1); column(2, 1, 0); fill(0, 0, 15, -15, 7); fill(0, 14, MISSING, 38, MISSING); fill(1, 28, 14, 28);";

    public static void main(String[] args) {
        cells();
        cellsMade();
        counts();
        countsOfMissing();
        joinRefusals();
        joinPairs();
        missRefusals();
        misses();
        edges.end();
    }

    private static void cells() {
        edges.hold(17, "MISSING: also there is no such one.", THREE_TABLES + """
            at(0, 0, 0, 0) -> 0; at(0, 1, 2, 0) -> 38; at(0, 1, 3, 0) -> MISSING; at(1, 0, 2, 0) -> 28
            at(-1, 0, 0, 0) -> MISSING; at(3, 0, 0, 0) -> MISSING; at(MAX, 0, 0, 0) -> MISSING; at(MISSING, 0, 0, 0) -> MISSING
            at(0, -1, 0, 0) -> MISSING; at(0, 2, 0, 0) -> MISSING; at(0, 12, 0, 0) -> MISSING; at(0, MAX, 0, 0) -> MISSING; at(0, MISSING, 0, 0) -> MISSING
            at(0, 0, -1, 0) -> MISSING; at(0, 0, 4, 0) -> MISSING; at(0, 0, 6, 0) -> MISSING; at(0, 0, MAX, 0) -> MISSING; at(0, 0, MISSING, 0) -> MISSING
            at(1, 1, 0, 0) -> MISSING; at(1, 0, 3, 0) -> MISSING; at(2, 0, 0, 0) -> MISSING
            at(0, 0, 0, 1) -> MISSING; at(0, 0, 0, 2) -> MISSING; at(0, 0, 0, -1) -> MISSING; at(0, 0, 0, MAX) -> MISSING; at(0, 0, 0, MISSING) -> MISSING
            """);
    }

    private static void cellsMade() {
        edges.hold(17, "A CELL (made 0: true, 1: MADE).", THREE_TABLES + """
            mask(0, 1, 3, 10); mask(0, 3, 4, 1); at(0, 0, 1, 1) -> MISSING; make(); at(0, 0, 1, 0) -> 15; at(0, 0, 1, 1) -> 10
            at(0, 0, 3, 0) -> 7; at(0, 0, 3, 1) -> MISSING; at(0, 1, 3, 0) -> MISSING; at(0, 1, 3, 1) -> 7
            at(-1, 0, 0, 1) -> MISSING; at(3, 0, 0, 1) -> MISSING; at(0, -1, 0, 1) -> MISSING; at(0, 2, 0, 1) -> MISSING
            at(0, 0, -1, 1) -> MISSING; at(0, 0, 4, 1) -> MISSING; at(2, 0, 0, 1) -> MISSING; at(0, 0, 0, 2) -> MISSING; at(0, 0, 0, -1) -> MISSING
            """);
    }

    private static void counts() {
        edges.hold(20, "NONE; BAD: made not 0, 1; STATE: nothing is MADE.", THREE_TABLES + """
            count(-1, 0, 0, 0) -> NONE; count(3, 0, 0, 0) -> NONE; count(MAX, 0, 0, 0) -> NONE; count(MISSING, 0, 0, 0) -> NONE
            count(0, -1, 0, 0) -> NONE; count(0, 4, 0, 0) -> NONE; count(0, MAX, 0, 0) -> NONE; count(0, MISSING, 0, 0) -> NONE; count(2, 2, 0, 0) -> NONE
            count(0, 0, 0, -1) -> BAD; count(0, 0, 0, 2) -> BAD; count(0, 0, 0, MAX) -> BAD; count(0, 0, 0, MISSING) -> BAD
            count(0, 0, 0, 1) -> STATE; count(0, 0, 0, 0) -> 1; count(0, 3, 7, 0) -> 1
            make(); count(0, 0, 0, 1) -> 1; count(0, 0, 0, 2) -> BAD; count(0, 4, 0, 1) -> NONE; count(3, 0, 0, 1) -> NONE
            """);
        edges.hold(20, "How many ROWS have v (MISSING, too) in a COLUMN.", THREE_TABLES + """
            count(0, 0, 0, 0) -> 1; count(0, 0, 28, 0) -> 0; count(2, 0, 0, 0) -> 0; count(2, 1, MISSING, 0) -> 0
            count(0, 2, MAX, 0) -> 0; count(0, 2, -15, 0) -> 1; count(0, 1, -1, 0) -> 0; count(0, 0, 1, 0) -> 0; count(1, 2, 28, 0) -> 1
            fill(2, 0, 14); fill(2, 14, 14); fill(2, 28, 14); count(2, 1, 14, 0) -> 3; mask(0, 0, 1, 0); dial(0, 0, 1, 1, 1); make()
            count(2, 1, 14, 1) -> 0; count(2, 1, 28, 1) -> 3; count(2, 1, 14, 0) -> 3
            """);
    }

    private static void countsOfMissing() {
        edges.hold(20, "(MISSING, too)", THREE_TABLES + """
            count(0, 0, MISSING, 0) -> 0; count(0, 1, MISSING, 0) -> 1; count(0, 2, MISSING, 0) -> 0; count(0, 3, MISSING, 0) -> 1
            mask(0, 1, 5, 0); mask(0, 2, 5, 0); make(); count(0, 1, MISSING, 1) -> 2; count(0, 2, MISSING, 1) -> 2; count(0, 3, MISSING, 1) -> 1
            count(0, 1, MISSING, 0) -> 1; count(0, 2, MISSING, 0) -> 0
            """);
        String full = "table(); column(0, 4, 0);" + Edges.twelveRows(0, ", 9");
        edges.hold(20, "How many ROWS have v (MISSING, too) in a COLUMN.", full + """
            count(0, 1, 9, 0) -> 12; count(0, 1, MISSING, 0) -> 0; count(0, 0, 1002, 0) -> 1; mask(0, 1, 5, 0); make()
            count(0, 1, 9, 1) -> 0; count(0, 1, MISSING, 1) -> 12
            """);
    }

    private static void joinRefusals() {
        edges.hold(21, "NONE; BAD: it is no REF, made; STATE.", THREE_TABLES + """
            joins(-1, 1, 0) -> NONE; joins(3, 1, 0) -> NONE; joins(MAX, 1, 0) -> NONE; joins(MISSING, 1, 0) -> NONE
            joins(1, -1, 0) -> NONE; joins(1, 3, 0) -> NONE; joins(1, MAX, 0) -> NONE; joins(1, MISSING, 0) -> NONE
            joins(1, 0, 0) -> BAD; joins(0, 1, 0) -> BAD; joins(0, 2, 0) -> BAD; joins(0, 3, 0) -> BAD
            joins(1, 1, -1) -> BAD; joins(1, 1, 2) -> BAD; joins(1, 1, MAX) -> BAD; joins(1, 1, MISSING) -> BAD
            joins(1, 1, 1) -> STATE; joins(1, 1, 0) -> 1; joins(1, 2, 0) -> 1; make(); joins(1, 1, 1) -> 1; joins(1, 0, 1) -> BAD; joins(1, 1, 2) -> BAD
            """);
    }

    private static void joinPairs() {
        edges.hold(21, "How many pairs of a ROW of t and one of the TABLE to which REF COLUMN c goes join.", """
            table(); table(); column(1, 1, 0); joins(1, 1, 0) -> 0
            fill(1, 0, 0); joins(1, 1, 0) -> 0; fill(1, 14, MISSING); joins(1, 1, 0) -> 0; fill(0, 14); joins(1, 1, 0) -> 0; fill(0, 0); joins(1, 1, 0) -> 1
            fill(1, 28, 0); joins(1, 1, 0) -> 2; fill(1, 32, 14); joins(1, 1, 0) -> 3; fill(1, 46, 28); joins(1, 1, 0) -> 3
            mask(0, 0, 1, 0); dial(0, 0, 4, 7, 3); make(); joins(1, 1, 1) -> 3; mask(1, 1, 5, 0); make(); joins(1, 1, 1) -> 0; joins(1, 1, 0) -> 3
            """);
        String full = "table(); column(0, 1, 0);" + Edges.twelveRows(0, ", 1002");
        edges.hold(21, "How many pairs of a ROW of t and one of the TABLE to which REF COLUMN c goes join.", full + "joins(0, 1, 0) -> 12; make(); joins(0, 1, 1) -> 12");
    }

    private static void missRefusals() {
        edges.hold(22, "NONE; BAD: another KIND; STATE.", THREE_TABLES + """
            miss(-1, 1) -> NONE; miss(3, 1) -> NONE; miss(MAX, 1) -> NONE; miss(MISSING, 1) -> NONE
            miss(0, -1) -> NONE; miss(0, 4) -> NONE; miss(0, MAX) -> NONE; miss(0, MISSING) -> NONE
            miss(0, 0) -> BAD; miss(0, 3) -> BAD; miss(1, 1) -> BAD; miss(0, 1) -> STATE; miss(0, 2) -> STATE
            make(); miss(0, 1) -> 0; miss(0, 2) -> 0; miss(0, 0) -> BAD; miss(0, 3) -> BAD; miss(1, 1) -> BAD; miss(0, 4) -> NONE
            """);
    }

    private static void misses() {
        edges.hold(22, "(where none is MISSING)", THREE_TABLES + """
            mask(0, 1, 3, 10); mask(0, 2, 3, 10); make(); miss(0, 1) -> 5; miss(0, 2) -> 13; mask(0, 2, 5, 0); miss(0, 2) -> 13; make(); miss(0, 2) -> 0
            """);
        edges.hold(22, "The sum of how far MADE numbers of a COLUMN of DAYS or SUMS are from true ones", """
            table(); column(0, 2, 0); column(0, 3, 0); make(); miss(0, 1) -> 0; miss(0, 2) -> 0
            fill(0, 0, 100, -1); fill(0, 46, 100, 1); mask(0, 1, 2, 0); mask(0, 2, 3, 1000); make(); miss(0, 1) -> 46; miss(0, 2) -> 1000
            """);
        String full = "table(); column(0, 3, 0); mask(0, 1, 3, 1000);" + Edges.twelveRows(0, ", -9001");
        edges.hold(22, "The sum of how far MADE numbers of a COLUMN of DAYS or SUMS are from true ones", full + "make(); miss(0, 1) -> 11988; loss(0, 1) -> 11988");
    }
}
