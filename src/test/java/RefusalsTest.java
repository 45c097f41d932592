/**
 * "REFUSALS, of several the first one told": for every call and every two of its reasons, one that is refused for
 * both; and every refusal on an object on which a change would be seen: Edges asks that there is none.
 */
public final class RefusalsTest {
    private static final Edges edges = new Edges();
    private static final String SENTENCE = "REFUSALS, of several the first one told";
    /** TABLE 0: KEY, REF to 1, DAY, SUM, NAME, no ROW. TABLE 1: KEY, SUM, REF to 0, two ROWS. */
    private static final String PLAIN = "table(); table(); column(0, 1, 1); column(0, 2, 0); column(0, 3, 0); column(0, 4, 0);"
        + "column(1, 3, 0); column(1, 1, 0); fill(1, 0, 5, 14); fill(1, 14, 6, MISSING);";
    private static final String EIGHT_RULES = "found(0, 1); found(0, 1); found(0, 1); found(0, 1); found(0, 1); found(0, 1); found(0, 1); found(0, 1);";
    /**
     * An object that has something of everything, so that a change would be seen.
     * TABLE 0: KEY, REF to 1, DAY, SUM, NAME, two ROWS. TABLE 1: KEY, SUM, REF to 0, NAME, NAME, twelve ROWS.
     * TABLE 2: KEY and five DAYS, no ROW. TABLE 3: KEY.
     */
    private static final String RICH = """
        table(); table(); table(); table(); column(0, 1, 1); column(0, 2, 0); column(0, 3, 0); column(0, 4, 0)
        column(1, 3, 0); column(1, 1, 0); column(1, 4, 0); column(1, 4, 0)
        column(2, 2, 0); column(2, 2, 0); column(2, 2, 0); column(2, 2, 0); column(2, 2, 0)
        owner(0, 1); owner(1, 2); mask(0, 2, 2, 0); mask(0, 3, 3, 100); mask(0, 4, 4, 3); mask(1, 0, 1, 0); mask(1, 1, 3, 4)
        dial(1, 0, 2, 7, 3); dial(0, 4, 0, 3, 8); seed(17); agree(0, 3, 1, 1, 2, 1) -> 0; found(0, 1) -> 1; order(2, 1, 2) -> 2
        fill(0, 14, 28, 500, -5, 3); fill(0, 32, MISSING, 9990, 5, 4)
        """ + Edges.twelveRows(1, ", 6, 14, 1, 2");
    private static final String NOTHING = "They change nothing.";

    public static void main(String[] args) {
        columns();
        rows();
        rowsOfFullTables();
        masksAndDials();
        rules();
        looks();
        neighbours();
        bests();
        tablesAreKept();
        masksAreKept();
        rulesAreKept();
        looksChangeNothing();
        edges.end();
    }

    private static void columns() {
        String six = "table(); table(); table(); column(0, 2, 0); column(0, 2, 0); column(0, 2, 0); column(0, 2, 0); column(0, 2, 0);";
        edges.hold(3, SENTENCE, six + """
            column(3, 0, 0) -> NONE; column(3, 5, 0) -> NONE; column(-1, 2, 1) -> NONE; column(3, 1, 3) -> NONE; column(3, 5, 9) -> NONE
            column(0, 1, 3) -> NONE; column(0, 1, -1) -> NONE; column(0, 0, 0) -> BAD; column(0, 5, 0) -> BAD; column(0, 2, 1) -> BAD; column(0, 4, -1) -> BAD
            column(0, 2, 0) -> FULL; fill(0, 0, 1, 2, 3, 4, 5) -> 0
            column(0, 1, 3) -> NONE; column(0, 0, 0) -> BAD; column(0, 5, 0) -> BAD; column(0, 3, 2) -> BAD; column(0, 2, 0) -> STATE; column(0, 1, 0) -> STATE
            fill(1, 0) -> 0; column(1, 1, 3) -> NONE; column(1, 6, 0) -> BAD; column(1, 3, 1) -> BAD; column(1, 3, 0) -> STATE
            """);
    }

    private static void rows() {
        edges.hold(5, SENTENCE, PLAIN + """
            row(2) -> NONE; row(-1) -> NONE; cell(1) -> 1; row(2) -> NONE; row(1) -> BAD; wipe()
            cell(0); row(1) -> BAD; cell(5); row(1) -> BAD; cell(13); row(1) -> BAD; row(2) -> NONE; wipe()
            cell(0); cell(10000); cell(14); row(1) -> BAD; wipe(); cell(14); cell(0); cell(14); cell(0); row(1) -> BAD; wipe()
            cell(14); cell(0); cell(14); row(1) -> STATE; row(2) -> NONE; row(0) -> BAD
            """);
    }

    private static void rowsOfFullTables() {
        edges.hold(5, SENTENCE, "table(); column(0, 2, 0);" + Edges.twelveRows(0, ", 7") + """
            row(0) -> BAD; cell(10001); row(0) -> BAD; row(1) -> NONE; cell(10000); row(0) -> BAD; wipe()
            cell(10002); cell(0); row(0) -> BAD; wipe(); cell(10001); cell(0); cell(0); row(0) -> BAD; wipe()
            cell(0); cell(-1); row(0) -> BAD; wipe(); cell(0); cell(0); row(0) -> STATE; wipe(); cell(1002); cell(0); row(0) -> STATE; wipe()
            cell(10001); cell(0); row(0) -> FULL; row(1) -> NONE; about(0, 0, 1) -> 12
            """);
    }

    private static void masksAndDials() {
        edges.hold(7, SENTENCE, PLAIN + "owner(2, 2) -> NONE; owner(-1, 9) -> NONE; owner(0, 2) -> BAD; owner(0, 5) -> NONE");
        edges.hold(8, SENTENCE, PLAIN + """
            mask(2, 0, 9, 0) -> NONE; mask(-1, 0, 0, 5) -> NONE; mask(0, 5, 9, 9) -> NONE; mask(0, -1, 3, 0) -> NONE; mask(1, 3, 3, 1001) -> NONE
            mask(0, 0, 9, 9) -> BAD; mask(0, 0, 3, 0) -> BAD; mask(0, 2, 4, 12) -> BAD; mask(0, 3, 2, 1) -> BAD
            """);
        edges.hold(9, SENTENCE, PLAIN + """
            dial(2, 0, 1, 2, 0) -> NONE; dial(-1, 0, 0, 2, 99) -> NONE; dial(0, 5, 0, 2, 0) -> NONE; dial(0, -1, 1, 1, 100) -> NONE
            dial(0, 0, 0, 2, 0) -> NONE; dial(0, 0, 5, 1, 10) -> NONE; dial(0, 0, 5, 2, -1) -> NONE; dial(0, 4, 1, 2, 0) -> NONE; dial(0, 4, -1, 1, 100) -> NONE
            dial(0, 1, 0, 2, 100) -> NONE; dial(0, 2, 0, 2, 100) -> NONE; dial(0, 3, 1, 0, -1) -> NONE
            dial(0, 0, 4, 2, 10) -> BAD; dial(0, 4, 0, 2, 100) -> BAD; turned(0, 0, 12340) -> 12340; turned(0, 4, 3) -> 3
            """);
    }

    private static void rules() {
        edges.hold(11, SENTENCE, PLAIN + """
            order(2, 0, 0) -> NONE; order(0, 5, 5) -> NONE; order(0, 5, 3) -> NONE; order(0, 3, 5) -> NONE; order(0, 2, -1) -> NONE; order(0, 2, 2) -> BAD
            """ + EIGHT_RULES + "order(2, 1, 2) -> NONE; order(0, 2, 5) -> NONE; order(0, 2, 2) -> BAD; order(0, 2, 3) -> BAD; order(0, 0, 0) -> BAD");
        edges.hold(12, SENTENCE, PLAIN + """
            agree(2, 0, 1, 0, 0, 9) -> NONE; agree(0, 5, 1, 0, 0, 2) -> NONE; agree(0, 0, 2, 0, 0, 2) -> NONE; agree(0, 0, 1, 3, 0, 2) -> NONE
            agree(0, 0, 1, 0, 3, -1) -> NONE; agree(1, 1, 1, 1, 3, 0) -> NONE; agree(0, 0, 1, 0, 0, 9) -> BAD; agree(0, 3, 0, 3, 1, 2) -> BAD
            """ + EIGHT_RULES + """
            agree(2, 3, 1, 1, 2, 0) -> NONE; agree(0, 3, 1, 1, 3, 0) -> NONE; agree(0, 3, 1, 1, 2, 2) -> BAD; agree(0, 2, 1, 1, 2, 0) -> BAD
            agree(0, 3, 1, 0, 2, 0) -> BAD; agree(0, 3, 1, 1, 1, 0) -> BAD; agree(0, 3, 1, 1, 2, 0) -> FULL
            """);
        edges.hold(13, SENTENCE, PLAIN + EIGHT_RULES + """
            found(2, 1) -> NONE; found(0, 5) -> NONE; found(0, -1) -> NONE; found(0, 0) -> BAD; found(0, 4) -> BAD; found(0, 1) -> FULL; found(1, 2) -> FULL
            """);
    }

    private static void looks() {
        edges.hold(15, SENTENCE, "broken(2) -> BAD; broken(-1) -> BAD; broken(1) -> STATE");
        edges.hold(18, SENTENCE, PLAIN + """
            turned(2, 0, 1) -> NONE; turned(-1, 0, MISSING) -> NONE; turned(0, 5, 100) -> NONE; turned(0, -1, -1) -> NONE; turned(0, 2, 10000) -> NONE
            turned(0, 1, 1) -> NONE; turned(0, 3, MISSING) -> NONE; turned(0, 0, 1) -> BAD
            """);
        edges.hold(20, SENTENCE, PLAIN + """
            count(2, 0, 0, 2) -> NONE; count(0, 5, 0, -1) -> NONE; count(2, 0, 0, 1) -> NONE; count(0, 5, 0, 1) -> NONE; count(0, 0, 0, 2) -> BAD
            count(0, 0, 0, 1) -> STATE
            """);
        edges.hold(21, SENTENCE, PLAIN + """
            joins(2, 1, 2) -> NONE; joins(0, 5, 2) -> NONE; joins(2, 1, 1) -> NONE; joins(0, 5, 1) -> NONE; joins(0, 0, 2) -> BAD; joins(0, 0, 1) -> BAD
            joins(0, 1, 2) -> BAD; joins(0, 1, -1) -> BAD; joins(0, 1, 1) -> STATE
            """);
        edges.hold(22, SENTENCE, PLAIN + "miss(2, 0) -> NONE; miss(0, 5) -> NONE; miss(0, 0) -> BAD; miss(0, 1) -> BAD; miss(0, 4) -> BAD; miss(0, 2) -> STATE");
    }

    private static void neighbours() {
        edges.hold(23, SENTENCE, PLAIN + """
            could(2, 0, 64) -> NONE; could(-1, 0, -1) -> NONE; could(1, 2, 8) -> NONE; could(1, -1, 8) -> NONE; could(0, 0, 32) -> NONE; could(1, 0, 8) -> BAD
            """);
        edges.hold(24, SENTENCE, PLAIN + "alike(2, 64) -> NONE; alike(-1, -1) -> NONE; alike(0, 32) -> NONE; alike(0, -1) -> NONE; alike(1, 8) -> BAD");
        edges.hold(25, SENTENCE, PLAIN + """
            sure(2, 0, 64, 0) -> NONE; sure(1, 2, 8, 0) -> NONE; sure(1, 0, 8, 3) -> NONE; sure(1, 0, -1, -1) -> NONE; sure(0, 0, 32, 0) -> NONE
            sure(1, 0, 8, 2) -> BAD
            """);
        edges.hold(26, SENTENCE, PLAIN + "loss(2, 0) -> NONE; loss(0, 5) -> NONE; loss(-1, 1) -> NONE; loss(0, 0) -> BAD");
    }

    private static void bests() {
        edges.hold(27, SENTENCE, PLAIN + """
            best(2, 64, 1) -> NONE; best(2, 0, 0) -> NONE; best(-1, -1, -1) -> NONE
            best(0, 32, 1) -> BAD; best(0, 0, 0) -> BAD; best(0, 32, 0) -> BAD; best(0, 0, 1) -> STATE
            best(1, 8, 3) -> BAD; best(1, 8, 0) -> BAD; best(1, 7, 0) -> BAD; best(1, 7, 2) -> STATE; best(1, 0, 3) -> STATE
            """);
    }

    private static void tablesAreKept() {
        edges.hold(5, NOTHING, RICH + """
            make() -> 100; cell(46); cell(1); cell(2); cell(3); cell(4); cell(5); table() -> FULL
            column(4, 2, 0) -> NONE; column(2, 1, 4) -> NONE; column(2, 0, 0) -> BAD; column(2, 2, 1) -> BAD; column(0, 2, 0) -> STATE; column(2, 2, 0) -> FULL
            cell(6) -> FULL; row(4) -> NONE; row(0) -> BAD; row(1) -> BAD; about(0, 5, 12) -> NONE; about(0, 1, 0) -> NONE; about(0, 0, 3) -> NONE
            about(0, 2, 11) -> NONE; all(5) -> NONE; row(2) -> 0; at(2, 0, 0, 0) -> 46; at(2, 0, 4, 0) -> 4; at(2, 0, 5, 0) -> 5; all(2) -> 0; all(4) -> 0
            """);
        edges.hold(5, NOTHING, RICH + "make() -> 100; cell(0); cell(14); cell(28); cell(7); cell(8); row(1) -> STATE; row(0) -> 2; at(0, 2, 4, 0) -> 8");
        edges.hold(5, NOTHING, RICH + "make() -> 100; cell(10001); cell(14); cell(28); cell(7); cell(8); row(1) -> FULL; row(0) -> 2; at(0, 2, 4, 0) -> 8");
    }

    private static void masksAreKept() {
        edges.hold(8, NOTHING, RICH + """
            make() -> 100; cell(46); cell(14); cell(28); cell(7); cell(8)
            owner(4, 0) -> NONE; owner(0, 5) -> NONE; owner(0, 2) -> BAD; mask(0, 5, 0, 0) -> NONE; mask(0, 3, 3, 1001) -> BAD; mask(0, 3, 2, 0) -> BAD
            mask(0, 4, 4, 12) -> BAD; mask(0, 3, 0, 1) -> BAD; dial(1, 5, 0, 1, 1) -> NONE; dial(1, 0, 5, 1, 1) -> NONE; dial(0, 4, 1, 1, 1) -> NONE
            dial(0, 3, 0, 1, 1) -> NONE; dial(1, 0, 2, 5, 1) -> BAD; dial(1, 0, 2, 1, 10) -> BAD; dial(0, 4, 0, 5, 1) -> BAD; dial(0, 4, 0, 1, 100) -> BAD
            seed(61) -> BAD; seed(-1) -> BAD; turned(0, 1, 0) -> NONE; turned(0, 9, 0) -> NONE; turned(0, 0, 1) -> BAD; shift(1) -> MISSING
            turned(0, 4, 0) -> 8; turned(1, 0, 0) -> 309; all(3) -> 17; all(2) -> 5
            """);
    }

    private static void rulesAreKept() {
        String refused = """
            make() -> 100; cell(46); cell(14); cell(28); cell(7); cell(8)
            order(2, 1, 9) -> NONE; order(2, 1, 1) -> BAD; order(0, 2, 3) -> BAD; agree(0, 3, 1, 1, 9, 1) -> NONE; agree(0, 2, 1, 1, 2, 1) -> BAD
            agree(0, 3, 1, 3, 2, 1) -> BAD; agree(0, 3, 1, 1, 1, 1) -> BAD; agree(1, 1, 1, 1, 2, 1) -> BAD; agree(0, 3, 1, 1, 2, 2) -> BAD
            found(0, 9) -> NONE; found(0, 0) -> BAD; broken(2) -> BAD;
            """;
        edges.hold(11, NOTHING, RICH + refused);
        edges.hold(11, NOTHING, RICH + "order(2, 1, 2); order(2, 2, 3); order(2, 3, 4); order(2, 4, 5); order(2, 1, 5) -> 7;" + refused
            + "order(2, 2, 1) -> FULL; agree(0, 3, 1, 1, 2, 0) -> FULL; found(1, 2) -> FULL");
    }

    private static void looksChangeNothing() {
        String refused = """
            cell(46); cell(14); cell(28); cell(7); cell(8); at(0, 2, 0, 0) -> MISSING; count(9, 0, 0, 0) -> NONE; count(0, 0, 0, 2) -> BAD; joins(0, 9, 0) -> NONE; joins(0, 0, 0) -> BAD
            joins(0, 1, 2) -> BAD; miss(0, 9) -> NONE; miss(0, 0) -> BAD; turned(0, 4, 0) -> 8;
            """;
        edges.hold(20, NOTHING, RICH + "make() -> 100;" + refused);
        edges.hold(20, NOTHING, RICH + refused + "broken(1) -> STATE; count(0, 0, 0, 1) -> STATE; joins(0, 1, 1) -> STATE; miss(0, 3) -> STATE; at(0, 0, 0, 1) -> MISSING; turned(0, 4, 0) -> 8");
        edges.hold(23, NOTHING, RICH + """
            make() -> 100; cell(46); cell(14); cell(28); cell(7); cell(8)
            could(0, 2, 0) -> NONE; could(0, 0, 32) -> BAD; alike(2, 0) -> NONE; alike(4, 0) -> NONE; alike(0, 32) -> BAD; sure(0, 0, 0, 5) -> NONE
            sure(0, 0, 32, 0) -> BAD; loss(0, 5) -> NONE; loss(0, 0) -> BAD; best(4, 0, 1) -> NONE; best(0, 32, 1) -> BAD; best(0, 0, 0) -> BAD
            best(0, 1, 2) -> STATE; best(1, 6, 13) -> STATE; best(2, 0, 1) -> STATE; could(0, 0, 31) -> 1; alike(1, 31) -> 12; sure(1, 0, 31, 1) -> 1
            """);
    }
}
