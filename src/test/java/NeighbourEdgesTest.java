/** What the document says of the edges of promises 23 to 27, a script for each sentence. */
public final class NeighbourEdgesTest {
    private static final Edges edges = new Edges();
    private static final String ONE_SUM = "table(); column(0, 3, 0);";
    private static final String TWO_SUMS = "table(); column(0, 3, 0); column(0, 3, 0);";

    public static void main(String[] args) {
        knownBits();
        couldRefusals();
        couldOfPlain();
        couldOfAnything();
        couldOfRefs();
        couldOfShifts();
        couldAsMasksAreNow();
        alikes();
        sureRefusals();
        sures();
        losses();
        bestRefusals();
        bestWithoutWay();
        bestWidths();
        bestOfSeveral();
        bestLeavesOthers();
        bestBesideOthers();
        fullTable();
        lastOfFullTable();
        bestOfAllWays();
        edges.end();
    }

    private static void knownBits() {
        edges.hold(23, "BAD: a bit of none.", """
            table(); fill(0, 0); could(0, 0, 0) -> 1; could(0, 0, 1) -> 1; could(0, 0, 2) -> BAD; could(0, 0, 3) -> BAD; could(0, 0, -1) -> BAD
            table(); column(1, 2, 0); column(1, 2, 0); column(1, 2, 0); column(1, 2, 0); column(1, 2, 0); fill(1, 0, 1, 2, 3, 4, 5)
            could(1, 0, 32) -> 1; could(1, 0, 63) -> 1; could(1, 0, 64) -> BAD; could(1, 0, 65) -> BAD; could(1, 0, MAX) -> BAD; could(1, 0, MISSING) -> BAD
            """);
        edges.hold(24, "NONE (also without ROWS); BAD.", """
            table(); alike(0, 0) -> NONE; fill(0, 0); alike(0, 0) -> 1; alike(0, 1) -> 1; alike(0, 2) -> BAD; alike(0, -1) -> BAD
            alike(0, MAX) -> BAD; alike(0, MISSING) -> BAD; alike(-1, 0) -> NONE; alike(1, 0) -> NONE; alike(MAX, 0) -> NONE; alike(MISSING, 0) -> NONE
            table(); alike(1, 0) -> NONE
            """);
        edges.hold(25, "Whether a COLUMN is SURE: 1, 0. NONE; BAD.", """
            table(); column(0, 2, 0); fill(0, 0, 1); sure(0, 0, 3, 1) -> 1; sure(0, 0, 4, 1) -> BAD; sure(0, 0, 7, 1) -> BAD; sure(0, 0, -1, 1) -> BAD
            sure(0, 0, MAX, 1) -> BAD; sure(0, 0, MISSING, 1) -> BAD
            """);
        edges.hold(27, "BAD: a bit of none, k below 1", """
            table(); column(0, 2, 0); fill(0, 0, 1); best(0, 3, 1) -> 0; best(0, 4, 1) -> BAD; best(0, 7, 1) -> BAD; best(0, -1, 1) -> BAD
            best(0, MAX, 1) -> BAD; best(0, MISSING, 1) -> BAD; best(0, 0, 0) -> BAD; best(0, 0, -1) -> BAD; best(0, 0, MISSING) -> BAD; best(0, 0, 1) -> 0
            """);
    }

    private static void couldRefusals() {
        edges.hold(23, "NONE there is no such TABLE, COLUMN, ROW", """
            table(); could(0, 0, 0) -> NONE; fill(0, 0); fill(0, 14); could(0, 1, 0) -> 2; could(0, 2, 0) -> NONE; could(0, -1, 0) -> NONE
            could(0, 12, 0) -> NONE; could(0, MAX, 0) -> NONE; could(0, MISSING, 0) -> NONE
            could(-1, 0, 0) -> NONE; could(1, 0, 0) -> NONE; could(MAX, 0, 0) -> NONE; could(MISSING, 0, 0) -> NONE
            table(); could(1, 0, 0) -> NONE; fill(1, 0); could(1, 0, 0) -> 1; could(1, 1, 0) -> NONE
            """);
    }

    private static void couldOfPlain() {
        edges.hold(23, "what the MASK makes of the true number is what the MASKED ROW has there", ONE_SUM + """
            fill(0, 0, 9); fill(0, 14, 10); fill(0, 28, -1); fill(0, 32, 0); fill(0, 46, MISSING); fill(0, 50, MISSING); fill(0, 64, 9)
            could(0, 0, 1) -> 1; could(0, 0, 2) -> 2; could(0, 1, 2) -> 1; could(0, 3, 2) -> 1; could(0, 4, 2) -> 2; could(0, 4, 3) -> 1; could(0, 0, 0) -> 7
            mask(0, 1, 3, 10); could(0, 0, 2) -> 3; could(0, 1, 2) -> 1; could(0, 2, 2) -> 1; could(0, 3, 2) -> 3; could(0, 4, 2) -> 2
            mask(0, 1, 3, 11); could(0, 0, 2) -> 4; could(0, 2, 2) -> 1; mask(0, 1, 3, 1); could(0, 0, 2) -> 2; could(0, 3, 2) -> 1
            """);
    }

    private static void couldOfAnything() {
        edges.hold(23, "BLOT, DEAL, TURN (REFS of a TABLE whose KEY is turned, too): anything", """
            table(); column(0, 4, 0); column(0, 3, 0); fill(0, 0, 5, 1); fill(0, 14, 6, 1); fill(0, 28, MISSING, MISSING)
            could(0, 0, 1) -> 1; mask(0, 0, 1, 0); could(0, 0, 1) -> 3; could(0, 0, 2) -> 1
            mask(0, 1, 1, 0); could(0, 0, 2) -> 3; could(0, 2, 2) -> 3; mask(0, 1, 4, 0); could(0, 0, 2) -> 3; could(0, 2, 2) -> 3
            mask(0, 1, 4, 1); could(0, 2, 2) -> 3; mask(0, 1, 5, 0); could(0, 0, 2) -> 3; could(0, 2, 2) -> 3
            could(0, 0, 4) -> 2; could(0, 0, 7) -> 2; mask(0, 2, 5, 0); could(0, 0, 7) -> 3
            """);
    }

    private static void couldOfRefs() {
        edges.hold(23, "(REFS of a TABLE whose KEY is kept, too)", """
            table(); table(); column(1, 1, 0); column(1, 1, 1); fill(1, 0, 14, 28); fill(1, 14, 14, MISSING); fill(1, 28, MISSING, MISSING)
            could(1, 0, 2) -> 2; could(1, 2, 2) -> 1; could(1, 0, 4) -> 1; could(1, 1, 4) -> 2
            mask(0, 0, 1, 0); could(1, 0, 2) -> 3; could(1, 2, 2) -> 3; could(1, 0, 4) -> 1; could(1, 0, 6) -> 1
            mask(1, 0, 1, 0); could(1, 0, 4) -> 3; could(1, 0, 7) -> 3; mask(0, 0, 0, 0); could(1, 0, 7) -> 2; mask(1, 1, 5, 0); could(1, 0, 7) -> 3
            """);
    }

    private static void couldOfShifts() {
        edges.hold(23, "SHIFT: it is MISSING just where the true one is", """
            table(); column(0, 2, 0); mask(0, 1, 2, 0); fill(0, 0, 0); fill(0, 14, 9999); fill(0, 28, MISSING); fill(0, 32, MISSING); fill(0, 46, 77)
            could(0, 0, 2) -> 3; could(0, 1, 2) -> 3; could(0, 2, 2) -> 2; could(0, 0, 0) -> 5; could(0, 0, 3) -> 1
            """);
        edges.hold(23, "of two known COLUMNS with SHIFT that are not MISSING the difference is as the true one", """
            table(); column(0, 2, 0); column(0, 2, 0); column(0, 2, 0); mask(0, 1, 2, 0); mask(0, 2, 2, 0)
            fill(0, 0, 100, 110, 5); fill(0, 14, 210, 200, 5); fill(0, 28, 300, 310, 6); fill(0, 32, 400, 411, 5); fill(0, 46, 500, MISSING, 5)
            fill(0, 50, 600, MISSING, 5); fill(0, 64, MISSING, 700, 5); fill(0, 78, MISSING, MISSING, 5)
            could(0, 0, 6) -> 2; could(0, 1, 6) -> 1; could(0, 3, 6) -> 1; could(0, 4, 6) -> 2; could(0, 6, 6) -> 1; could(0, 7, 6) -> 1
            could(0, 0, 2) -> 6; could(0, 0, 4) -> 5; could(0, 7, 2) -> 2; could(0, 0, 14) -> 1; could(0, 0, 10) -> 5
            mask(0, 3, 2, 0); could(0, 0, 14) -> 1; could(0, 4, 14) -> 1; could(0, 4, 6) -> 2; could(0, 4, 10) -> 1; could(0, 7, 12) -> 3
            mask(0, 3, 3, 10); could(0, 0, 14) -> 2; could(0, 4, 14) -> 2
            """);
        edges.hold(23, "of two known COLUMNS with SHIFT that are not MISSING the difference is as the true one", """
            table(); column(0, 2, 0); column(0, 2, 0); column(0, 2, 0); mask(0, 1, 2, 0); mask(0, 2, 2, 0); mask(0, 3, 2, 0)
            fill(0, 0, 100, MISSING, 150); fill(0, 14, 300, MISSING, 350); fill(0, 28, 300, MISSING, 351); fill(0, 32, 0, MISSING, 50); fill(0, 46, 9949, MISSING, 9999)
            could(0, 0, 14) -> 4; could(0, 2, 14) -> 1; could(0, 3, 14) -> 4; alike(0, 14) -> 1; could(0, 0, 8) -> 5
            """);
    }

    private static void couldAsMasksAreNow() {
        edges.hold(23, "What MASKS make of a ROW (without MENDING; as MASKS are now) is a MASKED ROW.", ONE_SUM + """
            fill(0, 0, 1); fill(0, 14, 2); make(); could(0, 0, 2) -> 1; mask(0, 1, 3, 10); could(0, 0, 2) -> 2; alike(0, 2) -> 2; sure(0, 0, 2, 1) -> 1
            make(); mask(0, 1, 0, 0); could(0, 0, 2) -> 1; alike(0, 2) -> 1; at(0, 0, 1, 1) -> 0
            """);
    }

    private static void alikes() {
        edges.hold(24, "ALIKE: the least number of MASKED ROWS that COULD be it, of all ROWS.", ONE_SUM + """
            fill(0, 0, 1); alike(0, 0) -> 1; alike(0, 3) -> 1; fill(0, 14, 1); alike(0, 2) -> 2; alike(0, 1) -> 1; alike(0, 0) -> 2
            fill(0, 28, MISSING); alike(0, 2) -> 1; fill(0, 32, MISSING); alike(0, 2) -> 2; fill(0, 46, 1); alike(0, 2) -> 2; alike(0, 0) -> 5
            fill(0, 50, 9); alike(0, 2) -> 1; mask(0, 1, 3, 10); alike(0, 2) -> 2; mask(0, 1, 5, 0); alike(0, 2) -> 6
            """);
    }

    private static void sureRefusals() {
        edges.hold(25, "NONE there is no such TABLE, COLUMN, ROW", """
            table(); column(0, 2, 0); sure(0, 0, 0, 0) -> NONE; fill(0, 0, 1); fill(0, 14, 1); sure(0, 1, 0, 1) -> 1
            sure(0, 2, 0, 1) -> NONE; sure(0, -1, 0, 1) -> NONE; sure(0, MAX, 0, 1) -> NONE; sure(0, MISSING, 0, 1) -> NONE
            sure(0, 0, 0, 2) -> NONE; sure(0, 0, 0, -1) -> NONE; sure(0, 0, 0, MAX) -> NONE; sure(0, 0, 0, MISSING) -> NONE
            sure(-1, 0, 0, 0) -> NONE; sure(1, 0, 0, 0) -> NONE; sure(MAX, 0, 0, 0) -> NONE; sure(MISSING, 0, 0, 0) -> NONE
            """);
    }

    private static void sures() {
        edges.hold(25, "if all MASKED ROWS that COULD be it have the same there (all MISSING, too)", """
            table(); column(0, 3, 0); column(0, 4, 0); fill(0, 0, 1, 5); sure(0, 0, 0, 0) -> 1; sure(0, 0, 0, 2) -> 1
            fill(0, 14, 1, 5); sure(0, 0, 0, 2) -> 1; sure(0, 0, 0, 0) -> 0; sure(0, 1, 0, 0) -> 0; sure(0, 0, 1, 0) -> 1; sure(0, 1, 1, 0) -> 1
            fill(0, 28, 2, MISSING); fill(0, 32, 2, MISSING); sure(0, 2, 2, 2) -> 1; sure(0, 0, 2, 2) -> 1; sure(0, 0, 0, 2) -> 0; sure(0, 2, 2, 1) -> 1
            fill(0, 46, 2, 5); sure(0, 2, 2, 2) -> 0; sure(0, 4, 2, 2) -> 0; sure(0, 4, 4, 1) -> 0; sure(0, 4, 6, 1) -> 1
            mask(0, 1, 3, 10); sure(0, 4, 2, 2) -> 0; sure(0, 0, 4, 1) -> 1; mask(0, 2, 5, 0); sure(0, 4, 2, 2) -> 1; sure(0, 4, 0, 2) -> 1
            """);
        edges.hold(25, "if all MASKED ROWS that COULD be it have the same there (all MISSING, too)", """
            table(); column(0, 4, 0); column(0, 3, 0); fill(0, 0, 1, 7); fill(0, 14, 2, 8); fill(0, 28, 3, 7)
            mask(0, 1, 4, 1); sure(0, 0, 4, 1) -> 0; sure(0, 1, 4, 1) -> 1; sure(0, 0, 2, 2) -> 0; mask(0, 1, 4, 3); sure(0, 0, 4, 1) -> 0; sure(0, 0, 2, 1) -> 0
            mask(0, 2, 3, 1000); sure(0, 0, 2, 2) -> 1
            """);
    }

    private static void losses() {
        edges.hold(26, "NONE; BAD: its MASK is not COARSE.", """
            table(); column(0, 2, 0); column(0, 3, 0); column(0, 4, 0); column(0, 1, 0); loss(0, 0) -> BAD; loss(0, 1) -> BAD; loss(0, 2) -> BAD
            loss(0, 3) -> BAD; loss(0, 4) -> BAD; loss(0, 5) -> NONE; loss(0, -1) -> NONE; loss(0, MAX) -> NONE; loss(0, MISSING) -> NONE
            loss(-1, 1) -> NONE; loss(1, 1) -> NONE; loss(MAX, 1) -> NONE; loss(MISSING, 1) -> NONE
            mask(0, 1, 3, 1); loss(0, 1) -> 0; mask(0, 1, 2, 0); loss(0, 1) -> BAD; mask(0, 1, 5, 0); loss(0, 1) -> BAD; mask(0, 3, 4, 3); loss(0, 3) -> BAD
            mask(0, 3, 1, 0); loss(0, 3) -> BAD; mask(0, 0, 1, 0); loss(0, 0) -> BAD
            """);
        edges.hold(26, "LOSS of a COLUMN with COARSE: the sum of how far its numbers are made less.", ONE_SUM + """
            mask(0, 1, 3, 1000); loss(0, 1) -> 0; fill(0, 0, MISSING); loss(0, 1) -> 0; fill(0, 14, 999); loss(0, 1) -> 999; fill(0, 28, 1000); loss(0, 1) -> 999
            fill(0, 32, -1); loss(0, 1) -> 1998; fill(0, 46, -1000); loss(0, 1) -> 1998; fill(0, 50, -999); loss(0, 1) -> 1999; fill(0, 64, -9999); loss(0, 1) -> 2000
            mask(0, 1, 3, 1); loss(0, 1) -> 0; mask(0, 1, 3, 2); loss(0, 1) -> 4
            """);
    }

    private static void bestRefusals() {
        edges.hold(27, "NONE there is no such TABLE", """
            best(0, 0, 1) -> NONE; table(); fill(0, 0); best(0, 0, 1) -> 0; best(1, 0, 1) -> NONE; best(-1, 0, 1) -> NONE; best(MAX, 0, 1) -> NONE
            best(MISSING, 0, 1) -> NONE
            """);
        edges.hold(27, "STATE: there is no ROW, no such way.", ONE_SUM + """
            mask(0, 1, 3, 37); best(0, 0, 1) -> STATE; best(0, 3, 1) -> STATE; about(0, 1, 13) -> 37
            fill(0, 0, 5); best(0, 3, 2) -> STATE; best(0, 0, 2) -> STATE; best(0, 0, MAX) -> STATE; about(0, 1, 13) -> 37; best(0, 3, 1) -> 0; about(0, 1, 13) -> 1
            """);
    }

    private static void bestWithoutWay() {
        edges.hold(27, "STATE: there is no ROW, no such way.", TWO_SUMS + """
            mask(0, 1, 3, 37); mask(0, 2, 3, 5); fill(0, 0, 999, 0); fill(0, 14, 1000, 0)
            best(0, 2, 2) -> STATE; best(0, 6, 2) -> STATE; best(0, 1, 2) -> STATE; about(0, 1, 13) -> 37; about(0, 2, 13) -> 5; loss(0, 1) -> 1
            best(0, 4, 2) -> 0; about(0, 1, 13) -> 1; about(0, 2, 13) -> 1; best(0, 4, 3) -> STATE; best(0, 2, 1) -> 0
            """);
        edges.hold(27, "with which ALIKE is k or more", ONE_SUM + """
            fill(0, 0, 0); fill(0, 14, 9); fill(0, 28, 999); best(0, 2, 2) -> STATE; best(0, 2, 1) -> 0; best(0, 0, 3) -> 0; best(0, 0, 4) -> STATE
            mask(0, 1, 3, 1); best(0, 2, 1) -> 0; about(0, 1, 13) -> 1; best(0, 2, 2) -> 1008; about(0, 1, 13) -> 1000
            best(0, 2, 3) -> 1008; about(0, 1, 13) -> 1000; best(0, 2, 4) -> STATE; about(0, 1, 13) -> 1000; alike(0, 2) -> 3
            fill(0, 32, MISSING); best(0, 2, 2) -> STATE; best(0, 2, 1) -> 0; fill(0, 46, MISSING); best(0, 2, 2) -> 1008; best(0, 2, 3) -> STATE
            """);
    }

    private static void bestWidths() {
        edges.hold(27, "of all ways to give WIDTHS out of 1, 10, 100, 1000", ONE_SUM + """
            mask(0, 1, 3, 20); fill(0, 0, 10); fill(0, 14, 10); best(0, 2, 2) -> 0; about(0, 1, 13) -> 1; fill(0, 28, 19); fill(0, 32, 19)
            best(0, 2, 2) -> 0; about(0, 1, 13) -> 1; best(0, 2, 3) -> 18; about(0, 1, 13) -> 10
            fill(0, 46, 99); best(0, 2, 1) -> 0; best(0, 2, 2) -> 157; about(0, 1, 13) -> 100; fill(0, 50, 100); best(0, 2, 2) -> 257; about(0, 1, 13) -> 1000
            loss(0, 1) -> 257; fill(0, 64, -1); best(0, 2, 2) -> STATE; about(0, 1, 13) -> 1000
            """);
    }

    private static void bestOfSeveral() {
        edges.hold(27, "that with the least sum of LOSSES", TWO_SUMS + """
            mask(0, 1, 3, 1); mask(0, 2, 3, 1); fill(0, 0, 11, 1); fill(0, 14, 12, 2); fill(0, 28, 11, 2); fill(0, 32, 12, 1)
            best(0, 6, 2) -> 6; about(0, 1, 13) -> 1; about(0, 2, 13) -> 10; loss(0, 1) -> 0; loss(0, 2) -> 6; best(0, 6, 3) -> 12; about(0, 1, 13) -> 10
            about(0, 2, 13) -> 10; best(0, 6, 4) -> 12; best(0, 6, 5) -> STATE; best(0, 2, 4) -> 6; about(0, 1, 13) -> 10; about(0, 2, 13) -> 1
            """);
        edges.hold(27, "that with the least sum of LOSSES", TWO_SUMS + """
            mask(0, 1, 3, 1); mask(0, 2, 3, 1); fill(0, 0, 10, 1); fill(0, 14, 11, 2); fill(0, 28, 10, 2); fill(0, 32, 11, 1)
            best(0, 6, 2) -> 2; about(0, 1, 13) -> 10; about(0, 2, 13) -> 1
            """);
        edges.hold(27, "of several that with the least WIDTH of the first such COLUMN, then the second, and so on", """
            table(); column(0, 2, 0); column(0, 3, 0); column(0, 2, 0); column(0, 4, 0); mask(0, 1, 3, 1000); mask(0, 2, 3, 1000); mask(0, 3, 3, 1000)
            fill(0, 0, 1000, 2000, 3000, 5); fill(0, 14, 1000, 2000, 3000, 5); best(0, 14, 2) -> 0; about(0, 1, 13) -> 1; about(0, 2, 13) -> 1; about(0, 3, 13) -> 1
            """);
        edges.hold(27, "of several that with the least WIDTH of the first such COLUMN, then the second, and so on", """
            table(); column(0, 2, 0); column(0, 3, 0); column(0, 2, 0); mask(0, 1, 3, 5); mask(0, 2, 3, 5); mask(0, 3, 3, 5)
            fill(0, 0, 40, 10, 20); fill(0, 14, 40, 11, 21); fill(0, 28, 40, 10, 21); fill(0, 32, 40, 11, 20)
            best(0, 14, 2) -> 2; about(0, 1, 13) -> 1; about(0, 2, 13) -> 1; about(0, 3, 13) -> 10
            best(0, 14, 4) -> 4; about(0, 1, 13) -> 1; about(0, 2, 13) -> 10; about(0, 3, 13) -> 10
            """);
        edges.hold(27, "of several that with the least WIDTH of the first such COLUMN, then the second, and so on", TWO_SUMS + """
            mask(0, 1, 3, 1); mask(0, 2, 3, 1); fill(0, 0, 0, 3); fill(0, 14, 10, 3); fill(0, 28, 0, 13); fill(0, 32, 10, 13)
            best(0, 6, 2) -> 20; about(0, 1, 13) -> 100; about(0, 2, 13) -> 1; best(0, 6, 4) -> 52; about(0, 1, 13) -> 100; about(0, 2, 13) -> 100
            """);
    }

    private static void bestLeavesOthers() {
        edges.hold(27, "to the COARSE COLUMNS of a TABLE", """
            table(); column(0, 2, 0); column(0, 3, 0); column(0, 4, 0); column(0, 2, 0); column(0, 3, 0); table(); column(1, 3, 0); mask(1, 1, 3, 44)
            mask(0, 1, 3, 30); mask(0, 3, 4, 7); mask(0, 4, 2, 0); mask(0, 5, 3, 700); fill(0, 0, 1, 2, 3, 4, 5); fill(0, 14, 1, 2, 3, 4, 5)
            best(0, 62, 2) -> 0; about(0, 1, 13) -> 1; about(0, 5, 13) -> 1; about(0, 2, 12) -> 0; about(0, 2, 13) -> 0; about(0, 3, 12) -> 4; about(0, 3, 13) -> 7
            about(0, 4, 12) -> 2; about(0, 4, 13) -> 0; about(1, 1, 13) -> 44; about(0, 1, 12) -> 3; about(0, 5, 12) -> 3
            best(0, 63, 2) -> STATE; mask(0, 0, 1, 0); best(0, 63, 2) -> 0
            """);
        edges.hold(27, "the COLUMNS have these WIDTHS then", TWO_SUMS + """
            mask(0, 1, 3, 3); mask(0, 2, 3, 3); fill(0, 0, 1, 77); fill(0, 14, 2, 99); make(); at(0, 0, 1, 1) -> 0; at(0, 0, 2, 1) -> 75
            best(0, 2, 2) -> 3; about(0, 1, 13) -> 10; about(0, 2, 13) -> 1; at(0, 0, 2, 1) -> 75; loss(0, 1) -> 3; loss(0, 2) -> 0; alike(0, 2) -> 2; alike(0, 6) -> 1
            make(); at(0, 0, 1, 1) -> 0; at(0, 0, 2, 1) -> 77; best(0, 6, 2) -> 179; about(0, 1, 13) -> 10; about(0, 2, 13) -> 100
            """);
    }

    /** What a NEIGHBOUR knows of COLUMNS that are not COARSE parts the ROWS, too, and no WIDTH brings them together. */
    private static void bestBesideOthers() {
        edges.hold(27, "with which ALIKE is k or more", """
            table(); column(0, 4, 0); column(0, 3, 0); mask(0, 2, 3, 5)
            fill(0, 0, 5, 1); fill(0, 14, 5, 2); fill(0, 28, 6, 3); best(0, 6, 2) -> STATE; best(0, 2, 2) -> STATE; best(0, 4, 2) -> 6; about(0, 2, 13) -> 10
            fill(0, 32, 6, 14); best(0, 6, 2) -> 20; about(0, 2, 13) -> 100; best(0, 2, 2) -> 0; about(0, 2, 13) -> 1; fill(0, 46, 5, 4); best(0, 6, 3) -> STATE
            best(0, 6, 2) -> 24; about(0, 2, 13) -> 100; best(0, 4, 5) -> 24; mask(0, 1, 1, 0); best(0, 6, 5) -> 24; mask(0, 1, 5, 0); best(0, 6, 5) -> 24
            """);
        edges.hold(27, "with which ALIKE is k or more", """
            table(); column(0, 2, 0); column(0, 3, 0); mask(0, 1, 2, 0); mask(0, 2, 3, 5)
            fill(0, 0, 100, 1); fill(0, 14, 200, 2); fill(0, 28, MISSING, 3); fill(0, 32, MISSING, 4); best(0, 6, 2) -> 10; about(0, 2, 13) -> 10; best(0, 6, 3) -> STATE
            best(0, 4, 4) -> 10; best(0, 2, 2) -> 0; about(0, 2, 13) -> 1; best(0, 2, 3) -> STATE; fill(0, 46, MISSING, 5); best(0, 6, 2) -> 15; best(0, 6, 3) -> STATE
            """);
    }

    private static void fullTable() {
        String full = "table(); column(0, 3, 0); column(0, 3, 0); column(0, 3, 0); column(0, 3, 0); column(0, 3, 0);"
            + Edges.twelveRows(0, ", 1, 2, 3, 4, ROW");
        edges.hold(24, "ROWS, numbered from 0 on, 12 at most", full + """
            could(0, 11, 0) -> 12; could(0, 11, 30) -> 12; could(0, 11, 62) -> 1; could(0, 12, 0) -> NONE; alike(0, 0) -> 12; alike(0, 30) -> 12; alike(0, 63) -> 1
            sure(0, 11, 30, 4) -> 1; sure(0, 11, 30, 5) -> 0; sure(0, 12, 30, 4) -> NONE
            mask(0, 1, 3, 9); mask(0, 2, 3, 9); mask(0, 3, 3, 9); mask(0, 4, 3, 9); mask(0, 5, 3, 9)
            best(0, 62, 2) -> 46; about(0, 5, 13) -> 10; best(0, 62, 3) -> 66; about(0, 5, 13) -> 100; about(0, 1, 13) -> 1; best(0, 62, 12) -> 66
            best(0, 62, 13) -> STATE; best(0, 62, MAX) -> STATE; about(0, 5, 13) -> 100; alike(0, 62) -> 12
            best(0, 0, 12) -> 0; about(0, 5, 13) -> 1; best(0, 32, 12) -> 66; about(0, 1, 13) -> 1; about(0, 5, 13) -> 100; best(0, 30, 12) -> 0; about(0, 5, 13) -> 1
            """);
    }

    /** Eleven ROWS alike: what holds of them does not hold of the last one. */
    private static void lastOfFullTable() {
        String full = ONE_SUM + Edges.twelveRows(0, ", 5").replace("1002, 5", "1002, 15");
        edges.hold(27, "of all ROWS", full + """
            could(0, 0, 2) -> 11; could(0, 10, 2) -> 11; could(0, 11, 2) -> 1; alike(0, 2) -> 1; sure(0, 0, 2, 1) -> 1; sure(0, 11, 0, 1) -> 0; sure(0, 0, 0, 1) -> 0
            mask(0, 1, 3, 10); alike(0, 2) -> 1; loss(0, 1) -> 60; best(0, 2, 1) -> 0; about(0, 1, 13) -> 1; best(0, 2, 2) -> 70; about(0, 1, 13) -> 100; alike(0, 2) -> 12
            """);
    }

    /** As many COARSE COLUMNS as there can be, with the last of all ways, and with the far WIDTH in one COLUMN alone. */
    private static void bestOfAllWays() {
        String sentence = "of all ways to give WIDTHS out of 1, 10, 100, 1000 to the COARSE COLUMNS of a TABLE";
        for (int n = 1; n <= 5; n++) {
            StringBuilder script = new StringBuilder("table();");
            for (int c = 1; c <= n; c++) script.append("column(0, 3, 0) -> " + c + "; mask(0, " + c + ", 3, 5);");
            script.append("fill(0, 0" + ", 0".repeat(n) + "); fill(0, 14" + ", 999".repeat(n) + ");");
            int all = (2 << n) - 2;
            script.append("best(0, " + all + ", 2) -> " + 999 * n + ";" + widths(n, all));
            script.append("best(0, " + all + ", 3) -> STATE;" + widths(n, all));
            for (int c = 1; c <= n; c++) script.append("best(0, " + (1 << c) + ", 2) -> 999;" + widths(n, 1 << c));
            script.append("best(0, " + all + ", 1) -> 0;" + widths(n, 0));
            edges.hold(27, sentence, script.toString());
        }
    }

    /** Of COLUMNS 1 to n those of a set have WIDTH 1000, the others 1. */
    private static String widths(int n, int far) {
        StringBuilder script = new StringBuilder();
        for (int c = 1; c <= n; c++) script.append("about(0, " + c + ", 13) -> " + ((far >> c & 1) == 1 ? 1000 : 1) + ";");
        return script.toString();
    }
}
