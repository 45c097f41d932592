/** What the document says of the edges of promises 11 to 16, a script for each sentence. */
public final class RuleEdgesTest {
    private static final Edges edges = new Edges();
    /** TABLE 0: KEY, DAY, DAY, SUM, NAME, REF to 1. TABLE 1: KEY, REF to 0, SUM, REF to 1, DAY. */
    private static final String TWO_TABLES = "table(); table(); column(0, 2, 0); column(0, 2, 0); column(0, 3, 0); column(0, 4, 0); column(0, 1, 1);"
        + "column(1, 1, 0); column(1, 3, 0); column(1, 1, 1); column(1, 2, 0);";
    /** TABLE 0: KEY, SUM. TABLE 1: KEY, SUM, REF to 0. */
    private static final String SUMS = "table(); table(); column(0, 3, 0); column(1, 3, 0); column(1, 1, 0);";
    private static final String TWO_DAYS = "table(); column(0, 2, 0); column(0, 2, 0); order(0, 1, 2) -> 0;";

    public static void main(String[] args) {
        ordersTold();
        agreesTold();
        agreesBad();
        foundsTold();
        rulesFull();
        unrules();
        brokenNumbers();
        ordersHold();
        agreesHold();
        foundsHold();
        firstBroken();
        numbersAnew();
        mends();
        mendsOfMissing();
        mendsInOrder();
        mendsFarOut();
        makesAsBefore();
        madeThere();
        edges.end();
    }

    private static void ordersTold() {
        edges.hold(11, "BAD: they are one, or not both DAYS", TWO_TABLES + """
            order(0, 1, 1) -> BAD; order(0, 2, 2) -> BAD; order(0, 0, 0) -> BAD; order(0, 3, 3) -> BAD
            order(0, 1, 0) -> BAD; order(0, 0, 1) -> BAD; order(0, 1, 3) -> BAD; order(0, 3, 1) -> BAD; order(0, 1, 4) -> BAD
            order(0, 4, 1) -> BAD; order(0, 5, 1) -> BAD; order(0, 1, 5) -> BAD; order(0, 3, 4) -> BAD; all(1) -> 0
            order(0, 1, 2) -> 0; order(0, 2, 1) -> 1; order(0, 1, 2) -> 2; all(1) -> 3
            """);
        edges.hold(11, "NONE there is no such TABLE, COLUMN", TWO_TABLES + """
            order(-1, 1, 2) -> NONE; order(2, 1, 2) -> NONE; order(MAX, 1, 2) -> NONE; order(MISSING, 1, 2) -> NONE
            order(0, -1, 2) -> NONE; order(0, 6, 2) -> NONE; order(0, MAX, 2) -> NONE; order(0, MISSING, 2) -> NONE
            order(0, 1, -1) -> NONE; order(0, 1, 6) -> NONE; order(0, 1, MAX) -> NONE; order(0, 1, MISSING) -> NONE
            order(1, 4, 5) -> NONE; order(1, 5, 4) -> NONE; all(1) -> 0; order(0, 1, 2) -> 0
            """);
    }

    private static void agreesTold() {
        edges.hold(12, "NONE there is no such TABLE, COLUMN", TWO_TABLES + """
            agree(-1, 3, 1, 2, 1, 0) -> NONE; agree(2, 3, 1, 2, 1, 0) -> NONE; agree(MAX, 3, 1, 2, 1, 0) -> NONE; agree(MISSING, 3, 1, 2, 1, 0) -> NONE
            agree(0, -1, 1, 2, 1, 0) -> NONE; agree(0, 6, 1, 2, 1, 0) -> NONE; agree(0, MAX, 1, 2, 1, 0) -> NONE
            agree(0, 3, -1, 2, 1, 0) -> NONE; agree(0, 3, 2, 2, 1, 0) -> NONE; agree(0, 3, MAX, 2, 1, 0) -> NONE; agree(0, 3, MISSING, 2, 1, 0) -> NONE
            agree(0, 3, 1, -1, 1, 0) -> NONE; agree(0, 3, 1, 5, 1, 0) -> NONE; agree(0, 3, 1, MAX, 1, 0) -> NONE
            agree(0, 3, 1, 2, -1, 0) -> NONE; agree(0, 3, 1, 2, 5, 0) -> NONE; agree(0, 3, 1, 2, MISSING, 0) -> NONE; all(1) -> 0
            agree(0, 3, 1, 2, 1, 0) -> 0
            """);
        edges.hold(12, "MENDED (1) or not (0): likewise.", TWO_TABLES + """
            agree(0, 3, 1, 2, 1, -1) -> BAD; agree(0, 3, 1, 2, 1, 2) -> BAD; agree(0, 3, 1, 2, 1, MAX) -> BAD; agree(0, 3, 1, 2, 1, MISSING) -> BAD
            all(1) -> 0; agree(0, 3, 1, 2, 1, 0) -> 0; agree(0, 3, 1, 2, 1, 1) -> 1; all(1) -> 2
            """);
    }

    private static void agreesBad() {
        edges.hold(12, "BAD: KINDS, another TABLE, mended", TWO_TABLES + """
            agree(0, 0, 1, 2, 1, 0) -> BAD; agree(0, 1, 1, 2, 1, 0) -> BAD; agree(0, 4, 1, 2, 1, 0) -> BAD; agree(0, 5, 1, 2, 1, 0) -> BAD
            agree(0, 3, 1, 0, 1, 0) -> BAD; agree(0, 3, 1, 1, 1, 0) -> BAD; agree(0, 3, 1, 4, 1, 0) -> BAD
            agree(0, 3, 1, 2, 0, 0) -> BAD; agree(0, 3, 1, 2, 2, 0) -> BAD; agree(0, 3, 1, 2, 4, 0) -> BAD; all(1) -> 0
            agree(1, 2, 0, 3, 5, 0) -> 0
            """);
        edges.hold(12, "by u's REF COLUMN e (to t)", TWO_TABLES + """
            agree(0, 3, 1, 2, 3, 0) -> BAD; all(1) -> 0; agree(0, 3, 1, 2, 1, 0) -> 0
            """);
        edges.hold(12, "is the sum of a SUM COLUMN of another TABLE", TWO_TABLES + """
            agree(1, 2, 1, 2, 3, 0) -> BAD; agree(1, 2, 1, 2, 3, 1) -> BAD; all(1) -> 0; agree(1, 2, 0, 3, 5, 1) -> 0
            """);
    }

    private static void foundsTold() {
        edges.hold(13, "FOUND of a REF COLUMN: likewise. NONE; BAD: it is none", TWO_TABLES + """
            found(0, 0) -> BAD; found(0, 1) -> BAD; found(0, 3) -> BAD; found(0, 4) -> BAD
            found(0, -1) -> NONE; found(0, 6) -> NONE; found(0, MAX) -> NONE; found(0, MISSING) -> NONE; found(1, 5) -> NONE
            found(-1, 1) -> NONE; found(2, 1) -> NONE; found(MAX, 1) -> NONE; found(MISSING, 1) -> NONE; all(1) -> 0
            found(0, 5) -> 0; found(1, 1) -> 1; found(1, 3) -> 2; all(1) -> 3
            """);
    }

    private static void rulesFull() {
        edges.hold(11, "RULES are numbered from 0 on, 8 at most", TWO_TABLES + """
            order(0, 1, 2) -> 0; agree(0, 3, 1, 2, 1, 0) -> 1; found(1, 1) -> 2; order(0, 2, 1) -> 3; agree(0, 3, 1, 2, 1, 1) -> 4
            found(1, 3) -> 5; found(0, 5) -> 6; all(1) -> 7; order(0, 1, 2) -> 7; all(1) -> 8
            order(0, 1, 2) -> FULL; agree(0, 3, 1, 2, 1, 0) -> FULL; agree(0, 3, 1, 2, 1, 1) -> FULL; found(1, 1) -> FULL; all(1) -> 8
            unrule() -> 8; order(0, 1, 2) -> 0
            """);
        String seven = "found(1, 1); found(1, 1); found(1, 1); found(1, 1); found(1, 1); found(1, 1); found(1, 1);";
        edges.hold(12, "8 at most", TWO_TABLES + seven + "agree(0, 3, 1, 2, 1, 0) -> 7; agree(0, 3, 1, 2, 1, 0) -> FULL");
        edges.hold(13, "8 at most", TWO_TABLES + seven + "found(1, 1) -> 7; found(1, 1) -> FULL");
        String sevenOfSums = seven.replace("found(1, 1)", "found(1, 2)");
        edges.hold(16, "RULES are numbered from 0 on, 8 at most", SUMS + sevenOfSums + """
            agree(0, 1, 1, 1, 2, 1) -> 7; fill(0, 0, 77); fill(1, 0, 5, 0); broken(0) -> 7; make() -> 100; at(0, 0, 1, 1) -> 5; broken(1) -> 100
            fill(1, 14, 5, 14); broken(0) -> 0; make() -> 0
            """);
    }

    private static void unrules() {
        edges.hold(14, "All RULES go: how many there were.", """
            unrule() -> 0; table(); column(0, 2, 0); column(0, 2, 0); fill(0, 0, 2, 1); order(0, 1, 2) -> 0; broken(0) -> 0; make() -> 0
            unrule() -> 1; all(1) -> 0; broken(0) -> 100; make() -> 100; unrule() -> 0; all(4) -> 1
            order(0, 2, 1) -> 0; order(0, 1, 2) -> 1; broken(0) -> 1; unrule() -> 2; broken(1) -> 100
            """);
    }

    private static void brokenNumbers() {
        edges.hold(15, "BAD: made; STATE: nothing is MADE.", """
            broken(-1) -> BAD; broken(2) -> BAD; broken(MAX) -> BAD; broken(MISSING) -> BAD; broken(0) -> 100; broken(1) -> STATE
            make(); broken(1) -> 100; broken(2) -> BAD; broken(-1) -> BAD; table(); broken(1) -> STATE; broken(0) -> 100
            """);
    }

    private static void ordersHold() {
        String sentence = "the first is not above the second, if none is MISSING";
        edges.hold(15, sentence, TWO_DAYS + "broken(0) -> 100; fill(0, 0, 7, 7); broken(0) -> 100; make() -> 100");
        edges.hold(15, sentence, TWO_DAYS + "fill(0, 0, 7, 8); broken(0) -> 100; make() -> 100");
        edges.hold(15, sentence, TWO_DAYS + "fill(0, 0, 8, 7); broken(0) -> 0; make() -> 0; all(4) -> 0");
        edges.hold(15, sentence, TWO_DAYS + "fill(0, 0, 9999, 0); broken(0) -> 0");
        edges.hold(15, sentence, TWO_DAYS + "fill(0, 0, 0, 9999); broken(0) -> 100");
        edges.hold(15, sentence, TWO_DAYS + "fill(0, 0, MISSING, 0); broken(0) -> 100");
        edges.hold(15, sentence, TWO_DAYS + "fill(0, 0, 9999, MISSING); broken(0) -> 100; make() -> 100");
        edges.hold(15, sentence, TWO_DAYS + "fill(0, 0, MISSING, MISSING); broken(0) -> 100");
        edges.hold(15, "in each ROW of a TABLE", TWO_DAYS + "fill(0, 0, 1, 1); fill(0, 14, 1, 1); fill(0, 28, 2, 1); broken(0) -> 0");
        edges.hold(15, "in each ROW of a TABLE", TWO_DAYS + "fill(0, 0, 2, 1); fill(0, 14, 1, 1); fill(0, 28, 1, 1); broken(0) -> 0");
        edges.hold(16, sentence, TWO_DAYS + """
            fill(0, 0, 18, 19); mask(0, 1, 3, 10); make() -> 100; mask(0, 1, 0, 0); mask(0, 2, 3, 10); make() -> 0
            mask(0, 1, 5, 0); make() -> 100; mask(0, 1, 0, 0); mask(0, 2, 5, 0); make() -> 100; broken(0) -> 100
            """);
    }

    private static void agreesHold() {
        String agree = SUMS + "agree(0, 1, 1, 1, 2, 0) -> 0;";
        edges.hold(15, "a SUM COLUMN, if not MISSING", agree + "fill(0, 0, MISSING); broken(0) -> 100; fill(1, 0, 5, 0); broken(0) -> 100; make() -> 100");
        edges.hold(15, "is the sum of a SUM COLUMN of another TABLE", agree + """
            broken(0) -> 100; fill(0, 0, 0); broken(0) -> 100; fill(0, 14, 3); broken(0) -> 0; fill(1, 0, 4, 14); broken(0) -> 0
            fill(1, 14, -1, 14); broken(0) -> 100; fill(1, 28, 1, 14); broken(0) -> 0; fill(1, 32, -1, 14); broken(0) -> 100
            """);
        edges.hold(15, "(MISSING ones 0)", agree + "fill(0, 0, 3); fill(1, 0, MISSING, 0); broken(0) -> 0; fill(1, 14, 3, 0); broken(0) -> 100");
        edges.hold(15, "of those ROWS there whose REF COLUMN (to the first TABLE) has its KEY", agree + """
            fill(0, 0, 3); fill(1, 0, 3, 14); broken(0) -> 0; fill(1, 14, 3, MISSING); broken(0) -> 0; fill(1, 28, 3, 0); broken(0) -> 100
            fill(0, 14, 3); broken(0) -> 100; fill(0, 28, 0); broken(0) -> 100; fill(0, 32, 3); broken(0) -> 0
            """);
        edges.hold(16, "of those ROWS there whose REF COLUMN (to the first TABLE) has its KEY", agree + """
            fill(0, 0, 3); fill(1, 0, 3, 0); mask(0, 0, 1, 0); dial(0, 0, 1, 1, 1); make() -> 100; mask(1, 2, 5, 0); make() -> 0
            mask(0, 1, 5, 0); make() -> 100; mask(0, 1, 0, 0); mask(1, 2, 0, 0); mask(1, 1, 5, 0); make() -> 0; mask(1, 1, 3, 3); make() -> 100
            mask(1, 1, 3, 2); make() -> 0; mask(0, 1, 3, 2); make() -> 100; at(0, 0, 1, 1) -> 2
            """);
    }

    private static void foundsHold() {
        edges.hold(15, "each REF of a COLUMN that is not MISSING is a KEY of its TABLE", """
            table(); table(); column(0, 1, 1); found(0, 1) -> 0; broken(0) -> 100; fill(0, 0, MISSING); broken(0) -> 100
            fill(0, 14, 14); broken(0) -> 0; make() -> 0; fill(1, 0); broken(0) -> 0; fill(1, 14); broken(0) -> 100; make() -> 100
            fill(0, 28, 28); broken(0) -> 0; make() -> 0; mask(0, 1, 5, 0); make() -> 100; broken(0) -> 0; broken(1) -> 100
            """);
        edges.hold(15, "each REF of a COLUMN that is not MISSING is a KEY of its TABLE", """
            table(); column(0, 1, 0); found(0, 1) -> 0; fill(0, 0, 14); broken(0) -> 0; fill(0, 14, 14); broken(0) -> 100
            mask(0, 0, 1, 0); dial(0, 0, 1, 3, 3); make() -> 100; broken(1) -> 100
            """);
    }

    private static void firstBroken() {
        edges.hold(15, "The first RULE that does not hold in the TABLES as they are (made 0), or the MADE ones (1): its number; 100: all hold.", """
            table(); column(0, 2, 0); column(0, 2, 0); fill(0, 0, 18, 19)
            order(0, 1, 2) -> 0; order(0, 1, 2) -> 1; order(0, 1, 2) -> 2; order(0, 1, 2) -> 3; order(0, 1, 2) -> 4; order(0, 1, 2) -> 5; order(0, 1, 2) -> 6
            broken(0) -> 100; order(0, 2, 1) -> 7; broken(0) -> 7; make() -> 7; all(4) -> 0
            mask(0, 1, 3, 10); mask(0, 2, 3, 10); make() -> 100; broken(1) -> 100; broken(0) -> 7
            unrule(); order(0, 2, 1) -> 0; order(0, 1, 2) -> 1; broken(0) -> 0; broken(1) -> 100
            mask(0, 1, 0, 0); make() -> 1; mask(0, 1, 3, 10); mask(0, 2, 0, 0); make() -> 0; broken(1) -> 100
            """);
        edges.hold(15, "or the MADE ones (1)", """
            table(); column(0, 2, 0); column(0, 2, 0); fill(0, 0, 18, 19); mask(0, 2, 3, 10); make() -> 100
            order(0, 1, 2) -> 0; broken(0) -> 100; broken(1) -> 0; make() -> 0; all(4) -> 1; broken(1) -> 0; unrule(); broken(1) -> 100
            """);
    }

    /** A RULE under a number that another one had is of its own KIND, TABLE and COLUMNS alone. */
    private static void numbersAnew() {
        String three = "table(); table(); table(); column(0, 2, 0); column(0, 2, 0); column(1, 2, 0); column(1, 2, 0); column(1, 3, 0); column(1, 1, 2);"
            + "column(2, 3, 0); column(2, 1, 1); fill(0, 0, 2, 1); fill(1, 0, 1, 2, 5, MISSING); fill(2, 0, 5, 0);";
        edges.hold(14, "All RULES go: how many there were.", three + """
            order(0, 1, 2) -> 0; broken(0) -> 0; unrule() -> 1; order(1, 1, 2) -> 0; broken(0) -> 100; unrule(); order(1, 2, 1) -> 0; broken(0) -> 0; make() -> 0
            unrule(); agree(1, 3, 2, 1, 2, 0) -> 0; broken(0) -> 100; unrule(); found(2, 2) -> 0; broken(0) -> 100; unrule(); found(1, 4) -> 0; broken(0) -> 100
            unrule(); order(0, 1, 2) -> 0; broken(0) -> 0; unrule(); agree(1, 3, 2, 1, 2, 1) -> 0; broken(0) -> 100; unrule(); order(0, 2, 1) -> 0; broken(0) -> 100
            unrule(); found(1, 4) -> 0; found(1, 4) -> 1; unrule(); order(1, 1, 2) -> 0; order(0, 1, 2) -> 1; broken(0) -> 1
            """);
    }

    private static void mends() {
        edges.hold(16, "An AGREE can be MENDED: in MADE TABLES the COLUMN becomes those sums", SUMS + """
            agree(0, 1, 1, 1, 2, 1) -> 0; fill(0, 0, 77); fill(0, 14, -5); fill(1, 0, 5, 0); fill(1, 14, -6, 0); fill(1, 28, 9, 28); fill(1, 32, 8, MISSING)
            fill(1, 46, MISSING, 0)
            broken(0) -> 0; make() -> 100; broken(1) -> 100; broken(0) -> 0
            at(0, 0, 1, 1) -> -1; at(0, 1, 1, 1) -> 0; at(0, 0, 1, 0) -> 77; at(0, 1, 1, 0) -> -5; miss(0, 1) -> 83
            mask(1, 2, 5, 0); make() -> 100; at(0, 0, 1, 1) -> 0; mask(1, 2, 0, 0); mask(1, 1, 5, 0); make() -> 100; at(0, 0, 1, 1) -> 0
            """);
        edges.hold(16, "behind all MASKS", SUMS + """
            agree(0, 1, 1, 1, 2, 1) -> 0; fill(0, 0, 77); fill(1, 0, 15, 0); fill(1, 14, 26, 0); mask(0, 1, 3, 1000); mask(1, 1, 3, 10)
            mask(0, 0, 1, 0); dial(0, 0, 1, 1, 1); make() -> 100; at(0, 0, 0, 1) -> 14; at(0, 0, 1, 1) -> 30; at(1, 0, 2, 1) -> 14; at(1, 0, 1, 1) -> 10
            loss(0, 1) -> 77; could(0, 0, 2) -> 1
            """);
        edges.hold(23, "What MASKS make of a ROW (without MENDING; as MASKS are now) is a MASKED ROW.", SUMS + """
            agree(0, 1, 1, 1, 2, 1) -> 0; fill(0, 0, 77); fill(0, 14, 78); make() -> 100; at(0, 0, 1, 1) -> 0; at(0, 1, 1, 1) -> 0
            could(0, 0, 2) -> 1; sure(0, 0, 0, 1) -> 0; mask(0, 1, 3, 10); could(0, 0, 2) -> 2; sure(0, 0, 0, 1) -> 1; at(0, 0, 1, 1) -> 0
            """);
    }

    private static void mendsOfMissing() {
        edges.hold(16, "a SUM COLUMN, if not MISSING", SUMS + """
            agree(0, 1, 1, 1, 2, 1) -> 0; fill(0, 0, MISSING); fill(0, 14, 0); fill(1, 0, 5, 0); fill(1, 14, 6, 14)
            make() -> 100; at(0, 0, 1, 1) -> MISSING; at(0, 1, 1, 1) -> 6; count(0, 1, MISSING, 1) -> 1
            mask(0, 1, 5, 0); make() -> 100; at(0, 0, 1, 1) -> MISSING; at(0, 1, 1, 1) -> MISSING; broken(1) -> 100
            """);
    }

    /** TABLE 0 has the sums of TABLE 1, which has those of TABLE 2. */
    private static void mendsInOrder() {
        String chain = "table(); table(); table(); column(0, 3, 0); column(1, 3, 0); column(1, 1, 0); column(2, 3, 0); column(2, 1, 1);"
            + "fill(0, 0, 1); fill(1, 0, 2, 0); fill(2, 0, 3, 0); fill(2, 14, 4, 0);";
        edges.hold(16, "by RULES in order", chain + """
            agree(1, 1, 2, 1, 2, 1) -> 0; agree(0, 1, 1, 1, 2, 1) -> 1; make() -> 100; at(1, 0, 1, 1) -> 7; at(0, 0, 1, 1) -> 7; broken(1) -> 100
            unrule(); agree(0, 1, 1, 1, 2, 1) -> 0; agree(1, 1, 2, 1, 2, 1) -> 1; make() -> 0; at(0, 0, 1, 1) -> 7
            agree(0, 1, 1, 1, 2, 1) -> 2; make() -> 100; unrule(); agree(0, 1, 1, 1, 2, 1) -> 0; make() -> 100; at(0, 0, 1, 1) -> 2; at(1, 0, 1, 1) -> 2
            """);
        edges.hold(16, "MENDED (1) or not (0): likewise.", chain + """
            agree(1, 1, 2, 1, 2, 0) -> 0; agree(0, 1, 1, 1, 2, 1) -> 1; make() -> 0; unrule(); agree(0, 1, 1, 1, 2, 0) -> 0; make() -> 0
            agree(0, 1, 1, 1, 2, 1) -> 1; make() -> 100; at(0, 0, 1, 1) -> 2
            """);
        edges.hold(16, "MENDED (1) or not (0): likewise.", chain + """
            agree(0, 1, 1, 1, 2, 1) -> 0; make() -> 100; unrule(); agree(0, 1, 1, 1, 2, 0) -> 0; broken(1) -> 100; make() -> 0
            unrule(); agree(0, 1, 1, 1, 2, 1) -> 0; unrule(); found(1, 2) -> 0; make() -> 100; at(0, 0, 1, 1) -> 1
            """);
    }

    /** Twelve parts of the farthest sum: what is MENDED may go beyond what a true SUM may be. */
    private static void mendsFarOut() {
        for (int sign = -1; sign < 2; sign += 2) {
            String script = SUMS + "agree(0, 1, 1, 1, 2, 1); fill(0, 0, 0);" + Edges.twelveRows(1, ", " + 9999 * sign + ", 0")
                + "broken(0) -> 0; make() -> 100; at(0, 0, 1, 1) -> " + 119988 * sign + "; miss(0, 1) -> 119988;"
                + "mask(1, 1, 3, 1000); make() -> 100; at(0, 0, 1, 1) -> " + (sign < 0 ? -120000 : 108000);
            edges.hold(16, "An AGREE can be MENDED: in MADE TABLES the COLUMN becomes those sums", script);
        }
    }

    private static void makesAsBefore() {
        edges.hold(16, "If a RULE does not hold in them, they are as before, and the first RULE is told.", """
            table(); column(0, 2, 0); column(0, 2, 0); fill(0, 0, 18, 19); order(0, 2, 1) -> 0; order(0, 1, 2) -> 1
            make() -> 0; all(4) -> 0; at(0, 0, 1, 1) -> MISSING; broken(1) -> STATE; count(0, 1, 18, 1) -> STATE; miss(0, 1) -> STATE
            mask(0, 1, 3, 10); mask(0, 2, 3, 10); make() -> 100; all(4) -> 1; at(0, 0, 1, 1) -> 10; at(0, 0, 2, 1) -> 10
            mask(0, 1, 0, 0); make() -> 1; all(4) -> 1; at(0, 0, 1, 1) -> 10; at(0, 0, 2, 1) -> 10; miss(0, 1) -> 8
            mask(0, 2, 0, 0); make() -> 0; at(0, 0, 2, 1) -> 10; broken(1) -> 100; make() -> 0; at(0, 0, 1, 1) -> 10; at(0, 0, 2, 1) -> 10
            unrule(); make() -> 100; at(0, 0, 1, 1) -> 18; at(0, 0, 2, 1) -> 19
            """);
        edges.hold(16, "TO MAKE: 100", "make() -> 100; all(4) -> 1; table(); make() -> 100; column(0, 2, 0); make() -> 100; all(4) -> 1");
    }

    private static void madeThere() {
        edges.hold(16, "MADE TABLES are there behind make() that was not refused, till table(), column(), row() that was not.", """
            table(); table(); column(0, 2, 0); column(0, 1, 1); column(0, 4, 0); fill(0, 0, 55, 14, 7); all(4) -> 0; make() -> 100; all(4) -> 1
            owner(0, 2); mask(0, 1, 3, 10); mask(0, 0, 1, 0); mask(0, 3, 1, 0); dial(0, 0, 1, 3, 1); dial(0, 3, 0, 3, 1); seed(5)
            found(0, 2); unrule(); cell(1); wipe(); best(0, 2, 1) -> 0; best(0, 2, 2) -> STATE; all(4) -> 1
            at(0, 0, 0, 1) -> 0; at(0, 0, 1, 1) -> 55; at(0, 0, 2, 1) -> 14; at(0, 0, 3, 1) -> 7; could(0, 0, 15) -> 1; at(0, 0, 3, 1) -> 7
            make() -> 100; at(0, 0, 0, 1) -> 14; at(0, 0, 1, 1) -> 55; at(0, 0, 3, 1) -> 22
            table() -> 2; all(4) -> 0; at(0, 0, 0, 1) -> MISSING; make(); all(4) -> 1; column(1, 2, 0) -> 1; all(4) -> 0
            make(); fill(1, 0, 1) -> 0; all(4) -> 0; count(0, 0, 14, 1) -> STATE; joins(0, 2, 1) -> STATE; miss(0, 1) -> STATE; broken(1) -> STATE
            make(); at(1, 0, 1, 1) -> 1
            """);
    }
}
