/**
 * Tables of true persons, and the masked copies that are handed out in their stead.
 * The document's numbered promises say what each public call answers; README.md says how to use it.
 */
public final class MaskedCopies {
    public static final int NONE = -1, BAD = -2, STATE = -3, FULL = -4;
    public static final int MISSING = Integer.MIN_VALUE;

    private static final int MAX_TABLES = 4, MAX_COLUMNS = 6, MAX_ROWS = 12, MAX_RULES = 8;
    private static final int KEY = 0, REF = 1, DAY = 2, SUM = 3, NAME = 4;
    private static final int KEEP = 0, TURN = 1, SHIFT = 2, COARSE = 3, DEAL = 4, BLOT = 5;
    private static final int ORDER = 0, AGREE = 1, FOUND = 2;
    private static final int LAST_KEY = 99999, LAST_DAY = 9999, LAST_SUM = 9999, LAST_NAME = 99;
    private static final int LAST_SEED = 60, LAST_WIDTH = 1000, LAST_DEAL = 11;
    private static final int SHIFTS = 61, FARTHEST_SHIFT = 30;
    private static final int ALL_HOLD = 100;

    private final Table[] tables = new Table[MAX_TABLES];
    private final Rule[] rules = new Rule[MAX_RULES];
    private final int[] waiting = new int[MAX_COLUMNS];
    private final Copy truth = new Copy();
    private final DayRoom room = new DayRoom();
    private final WidthSearch search = new WidthSearch();
    private Copy made = new Copy();
    // Masks are tried here, so that a copy that breaks a rule never touches the made one.
    private Copy draft = new Copy();
    private int tableCount = 0;
    private int ruleCount = 0;
    private int waitingCount = 0;
    private int seedNow = 0;
    private boolean hasMade = false;

    public MaskedCopies() {
        for (int t = 0; t < MAX_TABLES; t++) {
            tables[t] = new Table();
        }
        for (int i = 0; i < MAX_RULES; i++) {
            rules[i] = new Rule();
        }
    }

    // ---- tables, rows and what is told of them

    public int table() {
        if (tableCount >= MAX_TABLES) {
            return FULL;
        }
        hasMade = false;
        tableCount++;
        return tableCount - 1;
    }

    public int column(int t, int kind, int to) {
        Table table = tableAt(t);
        if (table == null || (kind == REF && tableAt(to) == null)) {
            return NONE;
        }
        if (kind < REF || kind > NAME || (kind != REF && to != 0)) {
            return BAD;
        }
        if (table.rowCount > 0) {
            return STATE;
        }
        if (table.columnCount >= MAX_COLUMNS) {
            return FULL;
        }
        hasMade = false;
        return table.addColumn(kind, to);
    }

    public int cell(int v) {
        if (waitingCount >= MAX_COLUMNS) {
            return FULL;
        }
        waiting[waitingCount] = v;
        waitingCount++;
        return waitingCount;
    }

    public int row(int t) {
        Table table = tableAt(t);
        if (table == null) {
            return NONE;
        }
        if (!waitingCellsFit(table)) {
            return BAD;
        }
        if (rowsWith(truth, t, 0, waiting[0]) > 0) {
            return STATE;
        }
        if (table.rowCount >= MAX_ROWS) {
            return FULL;
        }
        int r = table.rowCount;
        for (int c = 0; c < waitingCount; c++) {
            truth.write(t, r, c, waiting[c]);
        }
        table.rowCount = r + 1;
        waitingCount = 0;
        hasMade = false;
        return r;
    }

    public int wipe() {
        int waited = waitingCount;
        waitingCount = 0;
        return waited;
    }

    public int owner(int t, int c) {
        Table table = tableAt(t);
        Column column = columnAt(t, c);
        if (table == null || column == null) {
            return NONE;
        }
        if (column.kind != REF && column.kind != KEY) {
            return BAD;
        }
        int before = table.ownerColumn;
        table.ownerColumn = c;
        return before;
    }

    public int mask(int t, int c, int how, int number) {
        Column column = columnAt(t, c);
        if (column == null) {
            return NONE;
        }
        if (!isMaskOf(column.kind, how) || !isNumberOf(how, number)) {
            return BAD;
        }
        column.how = how;
        column.number = number;
        return 0;
    }

    public int dial(int t, int c, int i, int a, int b) {
        Table table = tableAt(t);
        Column column = columnAt(t, c);
        if (table == null || column == null) {
            return NONE;
        }
        if (column.kind == KEY) {
            return dialDigit(table, i, a, b);
        }
        if (column.kind != NAME || i != 0) {
            return NONE;
        }
        if (a < 1 || a > LAST_NAME || a % 2 == 0 || a % 5 == 0 || b < 0 || b > LAST_NAME) {
            return BAD;
        }
        column.factor = a;
        column.addend = b;
        return 0;
    }

    public int seed(int s) {
        if (s < 0 || s > LAST_SEED) {
            return BAD;
        }
        int before = seedNow;
        seedNow = s;
        return before;
    }

    // ---- rules and making

    public int order(int t, int a, int b) {
        Column first = columnAt(t, a);
        Column second = columnAt(t, b);
        if (first == null || second == null) {
            return NONE;
        }
        if (a == b || first.kind != DAY || second.kind != DAY) {
            return BAD;
        }
        Rule rule = nextRule();
        if (rule == null) {
            return FULL;
        }
        rule.setOrder(t, a, b);
        return addRule();
    }

    public int agree(int t, int c, int u, int d, int e, int mended) {
        Column total = columnAt(t, c);
        Column part = columnAt(u, d);
        Column ref = columnAt(u, e);
        if (total == null || part == null || ref == null) {
            return NONE;
        }
        if (total.kind != SUM || part.kind != SUM || ref.kind != REF || ref.to != t) {
            return BAD;
        }
        if (t == u || !isBit(mended)) {
            return BAD;
        }
        Rule rule = nextRule();
        if (rule == null) {
            return FULL;
        }
        rule.setAgree(t, c, u, d, e, mended == 1);
        return addRule();
    }

    public int found(int t, int c) {
        Column column = columnAt(t, c);
        if (column == null) {
            return NONE;
        }
        if (column.kind != REF) {
            return BAD;
        }
        Rule rule = nextRule();
        if (rule == null) {
            return FULL;
        }
        rule.setFound(t, c);
        return addRule();
    }

    public int unrule() {
        int before = ruleCount;
        ruleCount = 0;
        return before;
    }

    public int broken(int made) {
        if (!isBit(made)) {
            return BAD;
        }
        Copy copy = copyOf(made);
        return copy == null ? STATE : firstBroken(copy);
    }

    public int make() {
        for (int t = 0; t < tableCount; t++) {
            draftMasked(t);
        }
        mendDraft();
        int first = firstBroken(draft);
        if (first == ALL_HOLD) {
            Copy spare = made;
            made = draft;
            draft = spare;
            hasMade = true;
        }
        return first;
    }

    // ---- looking

    public int at(int t, int r, int c, int made) {
        if (!isBit(made) || !isRow(t, r) || columnAt(t, c) == null) {
            return MISSING;
        }
        Copy copy = copyOf(made);
        return copy == null ? MISSING : copy.read(t, r, c);
    }

    public int turned(int t, int c, int v) {
        Table table = tableAt(t);
        Column column = columnAt(t, c);
        if (table == null || column == null || (column.kind != KEY && column.kind != NAME)) {
            return NONE;
        }
        if (v == MISSING || !isNumberOfKind(column.kind, v)) {
            return BAD;
        }
        return column.kind == KEY ? table.turnKey(v) : column.turnName(v);
    }

    public int shift(int person) {
        return isKeyNumber(person) ? shiftOf(person) : MISSING;
    }

    public int count(int t, int c, int v, int made) {
        if (columnAt(t, c) == null) {
            return NONE;
        }
        if (!isBit(made)) {
            return BAD;
        }
        Copy copy = copyOf(made);
        return copy == null ? STATE : rowsWith(copy, t, c, v);
    }

    public int joins(int t, int c, int made) {
        Column column = columnAt(t, c);
        if (column == null) {
            return NONE;
        }
        if (column.kind != REF || !isBit(made)) {
            return BAD;
        }
        Copy copy = copyOf(made);
        if (copy == null) {
            return STATE;
        }
        int pairs = 0;
        for (int r = 0; r < rowsOf(t); r++) {
            pairs += rowsWith(copy, column.to, 0, copy.read(t, r, c));
        }
        return pairs;
    }

    public int miss(int t, int c) {
        Column column = columnAt(t, c);
        if (column == null) {
            return NONE;
        }
        if (column.kind != DAY && column.kind != SUM) {
            return BAD;
        }
        if (!hasMade) {
            return STATE;
        }
        int far = 0;
        for (int r = 0; r < rowsOf(t); r++) {
            int before = truth.read(t, r, c);
            int after = made.read(t, r, c);
            if (before != MISSING && after != MISSING) {
                far += Math.abs(after - before);
            }
        }
        return far;
    }

    // ---- the neighbour

    public int could(int t, int r, int known) {
        if (!isRow(t, r)) {
            return NONE;
        }
        if (!areColumns(t, known)) {
            return BAD;
        }
        draftMasked(t);
        return Integer.bitCount(couldSet(t, r, known));
    }

    public int alike(int t, int known) {
        if (rowsOf(t) == 0) {
            return NONE;
        }
        if (!areColumns(t, known)) {
            return BAD;
        }
        draftMasked(t);
        int least = MAX_ROWS;
        for (int r = 0; r < rowsOf(t); r++) {
            least = Math.min(least, Integer.bitCount(couldSet(t, r, known)));
        }
        return least;
    }

    public int sure(int t, int r, int known, int c) {
        if (!isRow(t, r) || columnAt(t, c) == null) {
            return NONE;
        }
        if (!areColumns(t, known)) {
            return BAD;
        }
        draftMasked(t);
        int set = couldSet(t, r, known);
        // A row's own masked row always could be it, so all the others must have what that one has.
        int own = draft.read(t, r, c);
        for (int m = 0; m < rowsOf(t); m++) {
            if (hasBit(set, m) && draft.read(t, m, c) != own) {
                return 0;
            }
        }
        return 1;
    }

    public int loss(int t, int c) {
        Column column = columnAt(t, c);
        if (column == null) {
            return NONE;
        }
        return column.how == COARSE ? lossBy(t, c, column.number) : BAD;
    }

    public int best(int t, int known, int k) {
        Table table = tableAt(t);
        if (table == null) {
            return NONE;
        }
        if (!areColumns(t, known) || k < 1) {
            return BAD;
        }
        if (table.rowCount == 0) {
            return STATE;
        }
        draftMasked(t);
        prepareSearch(t, known);
        int way = search.leastWay(k);
        if (way == NONE) {
            return STATE;
        }
        for (int j = 0; j < search.columnCount; j++) {
            Column column = columnAt(t, search.columnNumber(j));
            if (column != null) {
                column.number = WidthSearch.widthAt(search.choiceOf(way, j));
            }
        }
        return search.lossOf(way);
    }

    public int about(int t, int c, int what) {
        Table table = tableAt(t);
        Column column = columnAt(t, c);
        if (table == null || column == null || (what < 10 && c != 0)) {
            return NONE;
        }
        switch (what) {
            case 0:
                return table.columnCount;
            case 1:
                return table.rowCount;
            case 2:
                return table.ownerColumn;
            case 10:
                return column.kind;
            case 11:
                return column.kind == REF ? column.to : NONE;
            case 12:
                return column.how;
            case 13:
                return column.number;
            default:
                return NONE;
        }
    }

    public int all(int what) {
        switch (what) {
            case 0:
                return tableCount;
            case 1:
                return ruleCount;
            case 2:
                return waitingCount;
            case 3:
                return seedNow;
            case 4:
                return hasMade ? 1 : 0;
            default:
                return NONE;
        }
    }

    // ---- finding what a call names

    private Table tableAt(int t) {
        return t >= 0 && t < tableCount && t < MAX_TABLES ? tables[t] : null;
    }

    private Column columnAt(int t, int c) {
        Table table = tableAt(t);
        return table == null ? null : table.columnNumbered(c);
    }

    private int rowsOf(int t) {
        Table table = tableAt(t);
        return table == null ? 0 : table.rowCount;
    }

    private int columnsOf(int t) {
        Table table = tableAt(t);
        return table == null ? 0 : table.columnCount;
    }

    private boolean isRow(int t, int r) {
        return r >= 0 && r < rowsOf(t);
    }

    /** The true tables (0) or the made ones (1); null where nothing is made. */
    private Copy copyOf(int which) {
        if (which == 0) {
            return truth;
        }
        return hasMade ? made : null;
    }

    private boolean areColumns(int t, int known) {
        return known >= 0 && known < 1 << columnsOf(t);
    }

    private int rowsWith(Copy copy, int t, int c, int v) {
        int rows = 0;
        for (int r = 0; r < rowsOf(t); r++) {
            if (copy.read(t, r, c) == v) {
                rows++;
            }
        }
        return rows;
    }

    // ---- what numbers must be

    private static boolean isBit(int v) {
        return v == 0 || v == 1;
    }

    private static boolean hasBit(int set, int i) {
        return (set >> i & 1) == 1;
    }

    /** The check figure that belongs behind the four digits d4 to d1. */
    private static int rightFigure(int digits) {
        int d4 = digits / 1000 % 10;
        int d3 = digits / 100 % 10;
        int d2 = digits / 10 % 10;
        int d1 = digits % 10;
        return (d4 + 2 * d3 + 3 * d2 + 4 * d1) % 10;
    }

    private static boolean isKeyNumber(int v) {
        return v >= 0 && v <= LAST_KEY && v % 10 == rightFigure(v / 10);
    }

    private static boolean isNumberOfKind(int kind, int v) {
        switch (kind) {
            case KEY:
            case REF:
                return isKeyNumber(v);
            case DAY:
                return v >= 0 && v <= LAST_DAY;
            case SUM:
                return v >= -LAST_SUM && v <= LAST_SUM;
            case NAME:
                return v >= 0 && v <= LAST_NAME;
            default:
                return false;
        }
    }

    private boolean waitingCellsFit(Table table) {
        if (waitingCount != table.columnCount) {
            return false;
        }
        for (int c = 0; c < waitingCount; c++) {
            Column column = table.columnNumbered(c);
            if (column == null) {
                return false;
            }
            boolean mayMiss = column.kind != KEY && waiting[c] == MISSING;
            if (!mayMiss && !isNumberOfKind(column.kind, waiting[c])) {
                return false;
            }
        }
        return true;
    }

    private static boolean isMaskOf(int kind, int how) {
        switch (how) {
            case KEEP:
                return true;
            case TURN:
                return kind == KEY || kind == NAME;
            case SHIFT:
                return kind == DAY;
            case COARSE:
                return kind == DAY || kind == SUM;
            case DEAL:
                return kind == NAME;
            case BLOT:
                return kind != KEY;
            default:
                return false;
        }
    }

    private static boolean isNumberOf(int how, int number) {
        if (how == COARSE) {
            return number >= 1 && number <= LAST_WIDTH;
        }
        if (how == DEAL) {
            return number >= 0 && number <= LAST_DEAL;
        }
        return number == 0;
    }

    private static int dialDigit(Table table, int i, int a, int b) {
        if (i < 1 || i > 4) {
            return NONE;
        }
        boolean turnsOneToOne = a == 1 || a == 3 || a == 7 || a == 9;
        if (!turnsOneToOne || b < 0 || b > 9) {
            return BAD;
        }
        table.setDigit(i, a, b);
        return 0;
    }

    // ---- masks

    private void draftMasked(int t) {
        Table table = tableAt(t);
        if (table == null) {
            return;
        }
        boolean shifts = table.hasShift();
        for (int r = 0; r < table.rowCount; r++) {
            int amount = shifts ? shiftOf(ownerOf(t, r)) : 0;
            for (int c = 0; c < table.columnCount; c++) {
                draft.write(t, r, c, maskedCell(t, r, c, amount));
            }
        }
    }

    private int maskedCell(int t, int r, int c, int amount) {
        Table table = tableAt(t);
        Column column = columnAt(t, c);
        if (table == null || column == null) {
            return MISSING;
        }
        if (column.how == DEAL) {
            return dealtCell(t, r, c, column.number);
        }
        int v = truth.read(t, r, c);
        if (v == MISSING || column.how == BLOT) {
            return MISSING;
        }
        if (column.kind == REF) {
            return turnedRef(column.to, v);
        }
        switch (column.how) {
            case TURN:
                return column.kind == KEY ? table.turnKey(v) : column.turnName(v);
            case SHIFT:
                return v + amount;
            case COARSE:
                return v - tooFine(v, column.number);
            default:
                return v;
        }
    }

    private int turnedRef(int to, int v) {
        Table table = tableAt(to);
        return table != null && table.turnsKeys() ? table.turnKey(v) : v;
    }

    private int dealtCell(int t, int r, int c, int s) {
        int rows = rowsOf(t);
        return rows < 1 ? MISSING : truth.read(t, (r + s) % rows, c);
    }

    /** How far v is above the greatest multiple of a width that is not above it. */
    private static int tooFine(int v, int width) {
        return width < 1 ? 0 : Math.floorMod(v, width);
    }

    private int lossBy(int t, int c, int width) {
        int sum = 0;
        for (int r = 0; r < rowsOf(t); r++) {
            int v = truth.read(t, r, c);
            if (v != MISSING) {
                sum += tooFine(v, width);
            }
        }
        return sum;
    }

    private int ownerOf(int t, int r) {
        Table table = tableAt(t);
        return table == null ? MISSING : truth.read(t, r, table.ownerColumn);
    }

    /** By how much the days of a person, or of a row without owner (MISSING), are shifted. */
    private int shiftOf(int person) {
        if (person == MISSING) {
            return 0;
        }
        room.open();
        for (int t = 0; t < tableCount; t++) {
            narrowRoom(t, person);
        }
        for (int r = 0; r < SHIFTS; r++) {
            int amount = (person + seedNow + r) % SHIFTS - FARTHEST_SHIFT;
            if (room.lets(amount)) {
                return amount;
            }
        }
        return 0;
    }

    private void narrowRoom(int t, int person) {
        Table table = tableAt(t);
        if (table == null || !table.hasShift()) {
            return;
        }
        for (int r = 0; r < table.rowCount; r++) {
            if (ownerOf(t, r) == person) {
                narrowRoomByRow(table, t, r);
            }
        }
    }

    private void narrowRoomByRow(Table table, int t, int r) {
        for (int c = 0; c < table.columnCount; c++) {
            int day = truth.read(t, r, c);
            if (day != MISSING && table.isShifted(c)) {
                room.narrow(day);
            }
        }
    }

    // ---- rules

    private Rule nextRule() {
        return ruleCount < MAX_RULES ? rules[ruleCount] : null;
    }

    private int addRule() {
        ruleCount++;
        return ruleCount - 1;
    }

    private int firstBroken(Copy copy) {
        for (int i = 0; i < ruleCount && i < MAX_RULES; i++) {
            if (!ruleHolds(rules[i], copy)) {
                return i;
            }
        }
        return ALL_HOLD;
    }

    private boolean ruleHolds(Rule rule, Copy copy) {
        for (int r = 0; r < rowsOf(rule.table); r++) {
            if (!holdsInRow(rule, copy, r)) {
                return false;
            }
        }
        return true;
    }

    private boolean holdsInRow(Rule rule, Copy copy, int r) {
        int v = copy.read(rule.table, r, rule.column);
        if (v == MISSING) {
            return true;
        }
        switch (rule.kind) {
            case ORDER:
                int second = copy.read(rule.table, r, rule.second);
                return second == MISSING || v <= second;
            case AGREE:
                return v == partsOf(rule, copy, r);
            default:
                Column ref = columnAt(rule.table, rule.column);
                return ref != null && rowsWith(copy, ref.to, 0, v) > 0;
        }
    }

    private int partsOf(Rule rule, Copy copy, int r) {
        int key = copy.read(rule.table, r, 0);
        int sum = 0;
        for (int p = 0; p < rowsOf(rule.partTable); p++) {
            int part = copy.read(rule.partTable, p, rule.second);
            if (part != MISSING && copy.read(rule.partTable, p, rule.ref) == key) {
                sum += part;
            }
        }
        return sum;
    }

    private void mendDraft() {
        for (int i = 0; i < ruleCount && i < MAX_RULES; i++) {
            if (rules[i].kind == AGREE && rules[i].mended) {
                mendColumn(rules[i]);
            }
        }
    }

    // An AGREE asks nothing of a missing cell, so there is no sum that it could become.
    private void mendColumn(Rule rule) {
        for (int r = 0; r < rowsOf(rule.table); r++) {
            if (draft.read(rule.table, r, rule.column) != MISSING) {
                draft.write(rule.table, r, rule.column, partsOf(rule, draft, r));
            }
        }
    }

    // ---- what a neighbour could find out; the table's masked rows stand in the draft

    private int couldSet(int t, int r, int known) {
        int set = 0;
        for (int m = 0; m < rowsOf(t); m++) {
            if (looksSame(t, r, m, known) && movesSame(t, r, m, known)) {
                set |= 1 << m;
            }
        }
        return set;
    }

    /** Whether masked row m has what a neighbour of row r can work out for kept and coarse columns. */
    private boolean looksSame(int t, int r, int m, int known) {
        for (int c = 0; c < columnsOf(t); c++) {
            if (hasBit(known, c) && isPlain(t, c) && draft.read(t, m, c) != draft.read(t, r, c)) {
                return false;
            }
        }
        return true;
    }

    private boolean isPlain(int t, int c) {
        Column column = columnAt(t, c);
        if (column == null) {
            return false;
        }
        if (column.kind == REF) {
            Table target = tableAt(column.to);
            return column.how == KEEP && target != null && !target.turnsKeys();
        }
        return column.how == KEEP || column.how == COARSE;
    }

    /**
     * Whether the known shifted days of row r and masked row m are missing alike and lie all
     * equally far apart: then every two of them differ in one row as they do in the other.
     */
    private boolean movesSame(int t, int r, int m, int known) {
        Table table = tableAt(t);
        boolean hasMove = false;
        int move = 0;
        for (int c = 0; c < columnsOf(t); c++) {
            if (table == null || !hasBit(known, c) || !table.isShifted(c)) {
                continue;
            }
            int before = truth.read(t, r, c);
            int after = draft.read(t, m, c);
            if (before == MISSING && after == MISSING) {
                continue;
            }
            if (before == MISSING || after == MISSING || (hasMove && after - before != move)) {
                return false;
            }
            hasMove = true;
            move = after - before;
        }
        return true;
    }

    // ---- the search for the best widths

    private void prepareSearch(int t, int known) {
        search.begin(rowsOf(t));
        int coarse = 0;
        for (int c = 0; c < columnsOf(t); c++) {
            Column column = columnAt(t, c);
            if (column != null && column.how == COARSE) {
                coarse |= 1 << c;
                offerWidths(t, c, hasBit(known, c));
            }
        }
        for (int r = 0; r < rowsOf(t); r++) {
            search.setOthers(r, couldSet(t, r, known & ~coarse));
        }
    }

    private void offerWidths(int t, int c, boolean isKnown) {
        int j = search.addColumn(c);
        for (int w = 0; w < WidthSearch.CHOICES; w++) {
            int width = WidthSearch.widthAt(w);
            search.setLoss(j, w, lossBy(t, c, width));
            for (int r = 0; r < rowsOf(t); r++) {
                search.setSame(j, w, r, isKnown ? sameBy(t, c, r, width) : WidthSearch.EVERY_ROW);
            }
        }
    }

    /** The rows, as bits, whose number in a column a width makes the same as that of row r. */
    private int sameBy(int t, int c, int r, int width) {
        int own = coarseOrMissing(truth.read(t, r, c), width);
        int set = 0;
        for (int m = 0; m < rowsOf(t); m++) {
            if (coarseOrMissing(truth.read(t, m, c), width) == own) {
                set |= 1 << m;
            }
        }
        return set;
    }

    private static int coarseOrMissing(int v, int width) {
        return v == MISSING ? MISSING : v - tooFine(v, width);
    }

    /** A column: what it holds and what is done to it. */
    private static final class Column {
        int kind = KEY;
        int to = 0;
        int how = KEEP;
        int number = 0;
        int factor = 1;
        int addend = 0;

        int turnName(int v) {
            return (factor * v + addend) % 100;
        }
    }

    /** A table's columns and how many rows it has; the cells stand in a Copy. */
    private static final class Table {
        final Column[] columns = new Column[MAX_COLUMNS];
        // By digit, 1 to 4, so that place 0 (the check figure) is never used.
        final int[] factors = {1, 1, 1, 1, 1};
        final int[] addends = {0, 0, 0, 0, 0};
        int columnCount = 1;
        int rowCount = 0;
        int ownerColumn = 0;

        Table() {
            for (int c = 0; c < MAX_COLUMNS; c++) {
                columns[c] = new Column();
            }
        }

        Column columnNumbered(int c) {
            return c >= 0 && c < columnCount && c < MAX_COLUMNS ? columns[c] : null;
        }

        int addColumn(int kind, int to) {
            if (columnCount >= MAX_COLUMNS) {
                return FULL;
            }
            columns[columnCount].kind = kind;
            columns[columnCount].to = to;
            columnCount++;
            return columnCount - 1;
        }

        boolean isShifted(int c) {
            Column column = columnNumbered(c);
            return column != null && column.how == SHIFT;
        }

        boolean hasShift() {
            for (int c = 0; c < columnCount; c++) {
                if (isShifted(c)) {
                    return true;
                }
            }
            return false;
        }

        boolean turnsKeys() {
            return columns[0].how == TURN;
        }

        void setDigit(int i, int a, int b) {
            if (i >= 1 && i <= 4) {
                factors[i] = a;
                addends[i] = b;
            }
        }

        int turnKey(int v) {
            int rest = v / 10;
            int digits = 0;
            int place = 1;
            for (int i = 1; i <= 4; i++) {
                digits += (factors[i] * (rest % 10) + addends[i]) % 10 * place;
                rest /= 10;
                place *= 10;
            }
            return digits * 10 + rightFigure(digits);
        }
    }

    /** The cells of all tables: the true ones, the made ones, or a draft of them. */
    private static final class Copy {
        private final int[] cells = new int[MAX_TABLES * MAX_ROWS * MAX_COLUMNS];

        private static int placeOf(int t, int r, int c) {
            boolean isPlace = t >= 0 && t < MAX_TABLES && r >= 0 && r < MAX_ROWS
                    && c >= 0 && c < MAX_COLUMNS;
            return isPlace ? (t * MAX_ROWS + r) * MAX_COLUMNS + c : NONE;
        }

        int read(int t, int r, int c) {
            int place = placeOf(t, r, c);
            return place < 0 ? MISSING : cells[place];
        }

        void write(int t, int r, int c, int v) {
            int place = placeOf(t, r, c);
            if (place >= 0) {
                cells[place] = v;
            }
        }
    }

    /** How far all shifted days of a person may go, no farther than any shift goes. */
    private static final class DayRoom {
        private int down = 0;
        private int up = 0;

        void open() {
            down = FARTHEST_SHIFT;
            up = FARTHEST_SHIFT;
        }

        void narrow(int day) {
            down = Math.min(down, day);
            up = Math.min(up, LAST_DAY - day);
        }

        boolean lets(int amount) {
            return amount >= -down && amount <= up;
        }
    }

    /** A rule: ORDER of column and second; AGREE of column with the part table's; FOUND of column. */
    private static final class Rule {
        int kind = ORDER;
        int table = 0;
        int column = 0;
        int second = 0;
        int partTable = 0;
        int ref = 0;
        boolean mended = false;

        void setOrder(int t, int a, int b) {
            kind = ORDER;
            table = t;
            column = a;
            second = b;
        }

        void setAgree(int t, int c, int u, int d, int e, boolean isMended) {
            kind = AGREE;
            table = t;
            column = c;
            partTable = u;
            second = d;
            ref = e;
            mended = isMended;
        }

        void setFound(int t, int c) {
            kind = FOUND;
            table = t;
            column = c;
        }
    }

    /**
     * All ways to give widths to a table's coarse columns. A way is a number with two bits for
     * each column, the first column highest, so that of equal losses the lowest way is the best.
     */
    private static final class WidthSearch {
        static final int CHOICES = 4;
        static final int EVERY_ROW = (1 << MAX_ROWS) - 1;
        private static final int[] WIDTHS = {1, 10, 100, 1000};

        private final int[] numbers = new int[MAX_COLUMNS];
        private final int[] losses = new int[MAX_COLUMNS * CHOICES];
        private final int[] same = new int[MAX_COLUMNS * CHOICES * MAX_ROWS];
        private final int[] others = new int[MAX_ROWS];
        int columnCount = 0;
        private int rowCount = 0;

        static int widthAt(int choice) {
            return choice >= 0 && choice < CHOICES ? WIDTHS[choice] : 1;
        }

        void begin(int rows) {
            columnCount = 0;
            rowCount = Math.min(rows, MAX_ROWS);
        }

        int addColumn(int c) {
            if (columnCount >= MAX_COLUMNS) {
                return NONE;
            }
            numbers[columnCount] = c;
            columnCount++;
            return columnCount - 1;
        }

        int columnNumber(int j) {
            return j >= 0 && j < columnCount ? numbers[j] : NONE;
        }

        void setLoss(int j, int choice, int loss) {
            if (isChoice(j, choice)) {
                losses[j * CHOICES + choice] = loss;
            }
        }

        void setSame(int j, int choice, int r, int set) {
            if (isChoice(j, choice) && r >= 0 && r < rowCount) {
                same[(j * CHOICES + choice) * MAX_ROWS + r] = set;
            }
        }

        /** What the columns without widths leave of the rows that could be row r. */
        void setOthers(int r, int set) {
            if (r >= 0 && r < rowCount) {
                others[r] = set;
            }
        }

        private boolean isChoice(int j, int choice) {
            return j >= 0 && j < columnCount && choice >= 0 && choice < CHOICES;
        }

        int choiceOf(int way, int j) {
            return way >> 2 * (columnCount - 1 - j) & 3;
        }

        int lossOf(int way) {
            int sum = 0;
            for (int j = 0; j < columnCount; j++) {
                sum += losses[j * CHOICES + choiceOf(way, j)];
            }
            return sum;
        }

        private boolean isSafe(int way, int k) {
            for (int r = 0; r < rowCount; r++) {
                int set = others[r];
                for (int j = 0; j < columnCount; j++) {
                    set &= same[(j * CHOICES + choiceOf(way, j)) * MAX_ROWS + r];
                }
                if (Integer.bitCount(set) < k) {
                    return false;
                }
            }
            return true;
        }

        /** The way of least loss with which every row has k rows or more; NONE if there is none. */
        int leastWay(int k) {
            int best = NONE;
            int least = 0;
            for (int way = 0; way < 1 << 2 * columnCount; way++) {
                int loss = lossOf(way);
                if ((best == NONE || loss < least) && isSafe(way, k)) {
                    best = way;
                    least = loss;
                }
            }
            return best;
        }
    }
}
