import java.util.Arrays;

/**
 * Two sheets of cells that reckon with each other.
 *
 * Inside, a cell of a sheet is a PLACE: sheet * 60 + row * 6 + column. A reference stays the code
 * that it was told as (code % 120 is its place then), and so do numbers and names of formulas.
 */
public final class TabulaWorks {
    private static final int NONE = -1;
    private static final int SHEETS = 2;
    private static final int COLUMNS = 6;
    private static final int ROWS = 10;
    private static final int CELLS = 60;
    private static final int PLACES = 120;
    private static final int LINES = 20;
    private static final int NAMES = 3;
    private static final int OPERANDS = 3;

    private static final int LEAST_CODE = -1000;
    private static final int ZERO_CODE = -500;
    private static final int FIRST_NAME = 480;
    private static final int LAST_CODE = 482;
    /** What an operand becomes whose reference names no cell any more; no code that is told. */
    private static final int GONE = 483;

    private static final int EMPTY = -2;
    private static final int NUMBER = -1;
    private static final int PLUS = 0;
    private static final int LESS = 1;
    private static final int TIMES = 2;
    private static final int BY = 3;
    private static final int LESSER = 4;
    private static final int GREATER = 5;
    private static final int BELOW = 6;
    private static final int SAME = 7;
    private static final int CHOICE = 8;
    private static final int SUM = 9;
    private static final int COUNT = 10;
    private static final int MEAN = 11;
    private static final int LEAST = 12;
    private static final int MOST = 13;
    private static final int SHOWN = 14;
    private static final int FIND = 15;

    private static final int NOTHING = -1;
    private static final int DOUBLE = 0;
    private static final int CIRCLE = 1;
    private static final int DIVISION = 2;
    private static final int LOST = 3;
    private static final int MISSING = 4;
    private static final int GREAT = 5;

    private static final int MOST_DIGITS = 2;
    private static final int MOST_KEPT = 8;
    private static final int MOST_QUARTERS = 100000;
    private static final int GOAL_REACH = 40;
    private static final int NO_GOAL = -1001;
    private static final long DIGEST_START = 58323L;

    private final History history;
    private final Values shown;
    private final Reckoner live;
    private final Reckoner trial;
    private final Book trialBook;
    private final Writer writer;
    private final Area area;
    private final int[] rowOrder;
    private boolean held;
    private int refused;

    public TabulaWorks() {
        history = new History();
        shown = new Values();
        live = new Reckoner();
        trial = new Reckoner();
        trialBook = new Book();
        writer = new Writer();
        area = new Area();
        rowOrder = new int[ROWS];
    }

    // ---- what is done

    public int number(int sheet, int cell, int quarters)
            throws IndexOutOfBoundsException, IllegalArgumentException, IllegalStateException {
        checkCell(sheet, cell);
        checkQuarters(quarters);
        int place = placeOf(sheet, cell);
        checkUnlocked(place);
        history.keep().tellNumber(place, quarters);
        return settle();
    }

    public int formula(int sheet, int cell, int function, int one, int two, int three)
            throws IndexOutOfBoundsException, IllegalArgumentException, IllegalStateException {
        checkCell(sheet, cell);
        checkFormula(function, one, two, three);
        int place = placeOf(sheet, cell);
        checkUnlocked(place);
        history.keep().tellFormula(place, function, one, two, three);
        settle();
        return held ? NONE : shown.errorAt(place);
    }

    public boolean clear(int sheet, int cell) throws IndexOutOfBoundsException, IllegalStateException {
        checkCell(sheet, cell);
        int place = placeOf(sheet, cell);
        checkUnlocked(place);
        Book book = history.keep();
        boolean heldAnything = !book.isEmpty(place);
        book.empty(place);
        settle();
        return heldAnything;
    }

    public int copy(int sheet, int cell, int other, int to) throws IndexOutOfBoundsException, IllegalStateException {
        checkCell(sheet, cell);
        checkCell(other, to);
        int target = placeOf(other, to);
        checkUnlocked(target);
        Book book = history.keep();
        book.copyCell(placeOf(sheet, cell), target);
        settle();
        return book.goneAt(target);
    }

    public int fill(int sheet, int cell, int to) throws IndexOutOfBoundsException, IllegalStateException {
        checkCell(sheet, cell);
        checkCell(sheet, to);
        int source = placeOf(sheet, cell);
        area.lay(source, placeOf(sheet, to));
        if (history.now().isOneLocked(area, source)) {
            throw new IllegalStateException("a cell to which is locked");
        }
        int filled = history.keep().fillArea(area, source);
        settle();
        return filled;
    }

    public int move(int sheet, int cell, int other, int to) throws IndexOutOfBoundsException, IllegalStateException {
        checkCell(sheet, cell);
        checkCell(other, to);
        int source = placeOf(sheet, cell);
        int target = placeOf(other, to);
        checkUnlocked(source);
        checkUnlocked(target);
        int followed = history.keep().moveCell(source, target);
        settle();
        return followed;
    }

    public int put(int sheet, boolean isRow, int at) throws IndexOutOfBoundsException, IllegalStateException {
        checkLine(sheet, isRow, at);
        if (history.now().heldInLine(sheet, isRow, linesOf(isRow) - 1) > 0) {
            throw new IllegalStateException("the last one is not empty");
        }
        int farther = history.keep().putIn(sheet, isRow, at);
        settle();
        return farther;
    }

    public int take(int sheet, boolean isRow, int at) throws IndexOutOfBoundsException, IllegalStateException {
        checkLine(sheet, isRow, at);
        if (history.now().isLineLocked(sheet, isRow, at)) {
            throw new IllegalStateException("a cell that would be taken out is locked");
        }
        int gone = history.keep().takeOut(sheet, isRow, at);
        settle();
        return gone;
    }

    public int sort(int sheet, int from, int to, int column, boolean isDown)
            throws IndexOutOfBoundsException, IllegalArgumentException, IllegalStateException {
        checkRow(sheet, from);
        checkRow(sheet, to);
        checkColumn(sheet, column);
        if (to < from) {
            throw new IllegalArgumentException("the last row is ahead of the first");
        }
        Book before = history.now();
        checkRowsUnlocked(sheet, from, to);
        orderRows(placeOf(sheet, column), from, to, isDown);
        Book book = history.keep();
        int moved = 0;
        for (int row = from; row <= to; row++) {
            book.layRow(before, sheet, rowOrder[row], row);
            if (rowOrder[row] != row) {
                moved++;
            }
        }
        settle();
        return moved;
    }

    public int filter(int sheet, int column, int quarters) throws IndexOutOfBoundsException {
        checkColumn(sheet, column);
        Book book = history.keep();
        double bound = quarters / 4.0;
        int hiddenRows = 0;
        for (int row = 0; row < ROWS; row++) {
            int place = placeOf(sheet, row * COLUMNS + column);
            boolean isHidden = !shown.isDouble(place) || shown.number[place] < bound;
            book.hidden[place / COLUMNS] = isHidden;
            if (isHidden) {
                hiddenRows++;
            }
        }
        settle();
        return hiddenRows;
    }

    public boolean hide(int sheet, int row, boolean is) throws IndexOutOfBoundsException {
        checkRow(sheet, row);
        Book book = history.keep();
        int line = sheet * ROWS + row;
        boolean was = book.hidden[line];
        book.hidden[line] = is;
        settle();
        return was;
    }

    public int name(int name, int sheet, int one, int two) throws IndexOutOfBoundsException {
        checkName(name);
        checkCell(sheet, one);
        checkCell(sheet, two);
        Book book = history.keep();
        book.nameOne[name] = placeOf(sheet, one);
        book.nameTwo[name] = placeOf(sheet, two);
        settle();
        return book.formulasWith(FIRST_NAME + name);
    }

    public int digits(int sheet, int cell, int digits) throws IndexOutOfBoundsException, IllegalArgumentException {
        checkCell(sheet, cell);
        if (digits < 0 || digits > MOST_DIGITS) {
            throw new IllegalArgumentException("digits are 0 to 2");
        }
        Book book = history.keep();
        int place = placeOf(sheet, cell);
        int before = book.digits[place];
        book.digits[place] = digits;
        return before;
    }

    public boolean lock(int sheet, int cell, boolean is) throws IndexOutOfBoundsException {
        checkCell(sheet, cell);
        Book book = history.keep();
        int place = placeOf(sheet, cell);
        boolean was = book.locked[place];
        book.locked[place] = is;
        return was;
    }

    public boolean hold(boolean is) {
        boolean was = held;
        held = is;
        if (!held) {
            shown.takeFrom(live.values);
        }
        return was;
    }

    public int reckon() {
        int stale = staleIn(0, PLACES);
        shown.takeFrom(live.values);
        return stale;
    }

    public int undo() throws IllegalStateException {
        if (history.undos == 0) {
            throw new IllegalStateException("nothing is kept to be undone");
        }
        history.goBack();
        settle();
        return history.undos;
    }

    public int redo() throws IllegalStateException {
        if (history.redos == 0) {
            throw new IllegalStateException("nothing is kept to be done again");
        }
        history.goForth();
        settle();
        return history.redos;
    }

    public int ring() {
        refused++;
        return refused;
    }

    // ---- what is asked

    public double value(int sheet, int cell) throws IndexOutOfBoundsException {
        checkCell(sheet, cell);
        return shown.doubleAt(placeOf(sheet, cell));
    }

    public int ofCell(int sheet, int cell, int what) throws IndexOutOfBoundsException, IllegalArgumentException {
        checkCell(sheet, cell);
        if (what < 0 || what > 9) {
            throw new IllegalArgumentException("what is asked of a cell is 0 to 9");
        }
        int place = placeOf(sheet, cell);
        Book book = history.now();
        switch (what) {
            case 0:
                return book.kindAt(place);
            case 1:
                return shown.errorAt(place);
            case 2:
                return book.isFormula(place) ? book.function[place] : NONE;
            case 3:
                return book.digits[place];
            case 4:
                return book.locked[place] ? 1 : 0;
            case 5:
                return isStale(place) ? 1 : 0;
            case 6:
                return live.needsOf(place);
            case 7:
                return live.reachOf(place);
            case 8:
                return live.needersOf(place);
            default:
                return live.deep[place];
        }
    }

    public String words(int sheet, int cell) throws IndexOutOfBoundsException {
        checkCell(sheet, cell);
        writer.writeWords(history.now(), placeOf(sheet, cell));
        return writer.written();
    }

    public String text(int sheet, int cell) throws IndexOutOfBoundsException {
        checkCell(sheet, cell);
        int place = placeOf(sheet, cell);
        writer.writeShown(shown, place, history.now().digits[place]);
        return writer.written();
    }

    public int ofSheet(int sheet, int what) throws IndexOutOfBoundsException, IllegalArgumentException {
        checkSheet(sheet);
        if (what < 0 || what > 7) {
            throw new IllegalArgumentException("what is asked of a sheet is 0 to 7");
        }
        int first = placeOf(sheet, 0);
        Book book = history.now();
        switch (what) {
            case 0:
                return book.heldIn(first, first + CELLS);
            case 1:
                return book.formulasIn(first, first + CELLS);
            case 2:
                return shown.errorsIn(first, first + CELLS);
            case 3:
                return staleIn(first, first + CELLS);
            case 4:
                return book.locksIn(first, first + CELLS);
            case 5:
                return book.hiddenSet(sheet);
            case 6:
                return book.lastHeldLine(sheet, true);
            default:
                return book.lastHeldLine(sheet, false);
        }
    }

    public int ofName(int name, int what) throws IndexOutOfBoundsException, IllegalArgumentException {
        checkName(name);
        if (what < 0 || what > 4) {
            throw new IllegalArgumentException("what is asked of a name is 0 to 4");
        }
        Book book = history.now();
        if (what == 4) {
            return book.formulasWith(FIRST_NAME + name);
        }
        int one = book.nameOne[name];
        int two = book.nameTwo[name];
        if (one == NONE || two == NONE) {
            return what == 3 ? 0 : NONE;
        }
        switch (what) {
            case 0:
                return sheetOf(one);
            case 1:
                return one % CELLS;
            case 2:
                return two % CELLS;
            default:
                area.lay(one, two);
                return area.size();
        }
    }

    public int many(int what) throws IllegalArgumentException {
        if (what < 0 || what > 7) {
            throw new IllegalArgumentException("what is asked of all is 0 to 7");
        }
        Book book = history.now();
        switch (what) {
            case 0:
                return book.formulasIn(0, PLACES);
            case 1:
                return book.allGone();
            case 2:
                return history.undos;
            case 3:
                return history.redos;
            case 4:
                return held ? 1 : 0;
            case 5:
                return refused;
            case 6:
                return live.circleCount();
            default:
                return live.deepest();
        }
    }

    public double group(int sheet, int key, int column, int nth, int what)
            throws IndexOutOfBoundsException, IllegalArgumentException {
        checkColumn(sheet, key);
        checkColumn(sheet, column);
        if (nth < 0 || nth >= ROWS || what < 0 || what > 2) {
            throw new IllegalArgumentException("groups are 0 to 9, what is asked of one is 0 to 2");
        }
        int keys = placeOf(sheet, key);
        int summed = placeOf(sheet, column);
        int keyRow = NONE;
        for (int n = 0; n <= nth; n++) {
            keyRow = nextKeyRow(keys, summed, keyRow);
            if (keyRow == NONE) {
                return 0.0;
            }
        }
        double groupKey = shown.number[keys + keyRow * COLUMNS];
        return what == 0 ? groupKey : groupTotal(keys, summed, groupKey, what == 1);
    }

    // ---- what would be

    public double would(int sheet, int cell, int quarters, int other, int to)
            throws IndexOutOfBoundsException, IllegalArgumentException {
        checkCell(sheet, cell);
        checkCell(other, to);
        checkQuarters(quarters);
        tryNumber(placeOf(sheet, cell), quarters);
        return trial.values.doubleAt(placeOf(other, to));
    }

    public int goal(int sheet, int cell, int other, int to, int quarters)
            throws IndexOutOfBoundsException, IllegalArgumentException {
        checkCell(sheet, cell);
        checkCell(other, to);
        checkQuarters(quarters);
        int place = placeOf(sheet, cell);
        int target = placeOf(other, to);
        double wanted = quarters / 4.0;
        double nearest = 0.0;
        int best = NO_GOAL;
        tryNumber(place, 0);
        // From 0 on outwards, the one above 0 first: so the first of several that are as near stays.
        for (int step = 0; step <= 2 * GOAL_REACH; step++) {
            int tried = step % 2 == 1 ? (step + 1) / 2 : -(step / 2);
            trialBook.tellNumber(place, tried);
            trial.reckonFollowers(trialBook, place);
            if (trial.values.isDouble(target)) {
                double off = trial.values.number[target] - wanted;
                double away = off < 0.0 ? -off : off;
                if (best == NO_GOAL || away < nearest) {
                    best = tried;
                    nearest = away;
                }
            }
        }
        return best;
    }

    public int breaks(int sheet, boolean isRow, int at) throws IndexOutOfBoundsException {
        checkLine(sheet, isRow, at);
        trialBook.takeFrom(history.now());
        trialBook.takeOut(sheet, isRow, at);
        trial.gatherAll(trialBook);
        trial.reckonAll(trialBook);
        int broken = 0;
        for (int k = 0; k < live.formulaCount; k++) {
            int place = live.formulas[k];
            int line = sheetOf(place) == sheet ? lineOf(place, isRow) : NONE;
            int then = line > at ? place - stepOf(isRow) : place;
            if (line != at && !live.values.isError(place) && trial.values.isError(then)) {
                broken++;
            }
        }
        return broken;
    }

    public boolean isSound() {
        return staleIn(0, PLACES) == 0 && history.now().allGone() == 0 && live.circleCount() == 0;
    }

    public long digest() {
        long d = DIGEST_START;
        for (int what = 0; what <= 7; what++) {
            d = d * 31 + many(what);
        }
        for (int name = 0; name < NAMES; name++) {
            for (int what = 0; what <= 4; what++) {
                d = d * 31 + ofName(name, what);
            }
        }
        for (int sheet = 0; sheet < SHEETS; sheet++) {
            for (int what = 0; what <= 7; what++) {
                d = d * 31 + ofSheet(sheet, what);
            }
            for (int cell = 0; cell < CELLS; cell++) {
                if (!history.now().isEmpty(placeOf(sheet, cell))) {
                    d = digestCell(d, sheet, cell);
                }
            }
        }
        return d * 31 + (isSound() ? 1 : 0);
    }

    // ---- checks

    private static void checkSheet(int sheet) {
        if (sheet < 0 || sheet >= SHEETS) {
            throw new IndexOutOfBoundsException("no such sheet");
        }
    }

    private static void checkCell(int sheet, int cell) {
        checkSheet(sheet);
        if (cell < 0 || cell >= CELLS) {
            throw new IndexOutOfBoundsException("no such cell");
        }
    }

    private static void checkLine(int sheet, boolean isRow, int at) {
        checkSheet(sheet);
        if (at < 0 || at >= linesOf(isRow)) {
            throw new IndexOutOfBoundsException("no such row or column");
        }
    }

    private static void checkRow(int sheet, int row) {
        checkLine(sheet, true, row);
    }

    private static void checkColumn(int sheet, int column) {
        checkLine(sheet, false, column);
    }

    private static void checkName(int name) {
        if (name < 0 || name >= NAMES) {
            throw new IndexOutOfBoundsException("no such name");
        }
    }

    private static void checkQuarters(int quarters) {
        if (quarters < -MOST_QUARTERS || quarters > MOST_QUARTERS) {
            throw new IllegalArgumentException("quarters are -100000 to 100000");
        }
    }

    private static void checkFormula(int function, int one, int two, int three) {
        if (function < PLUS || function > FIND || !isCode(one)) {
            throw new IllegalArgumentException("no such function, or no such operand ONE");
        }
        if (hasTwo(function, one) && !isCode(two) || hasThree(function) && !isCode(three)) {
            throw new IllegalArgumentException("no such operand TWO or THREE");
        }
        if (isOfRange(function) && !isName(one) && !areCorners(one, two)) {
            throw new IllegalArgumentException("no range");
        }
    }

    private void checkUnlocked(int place) {
        if (history.now().locked[place]) {
            throw new IllegalStateException("the cell is locked");
        }
    }

    private void checkRowsUnlocked(int sheet, int from, int to) {
        for (int row = from; row <= to; row++) {
            if (history.now().isLineLocked(sheet, true, row)) {
                throw new IllegalStateException("a cell of these rows is locked");
            }
        }
    }

    // ---- places, lines and codes

    private static int placeOf(int sheet, int cell) {
        return sheet * CELLS + cell;
    }

    private static int sheetOf(int place) {
        return place / CELLS;
    }

    private static int rowOf(int place) {
        return place % CELLS / COLUMNS;
    }

    private static int columnOf(int place) {
        return place % COLUMNS;
    }

    /** A LINE is a row or a column. */
    private static int lineOf(int place, boolean isRow) {
        return isRow ? rowOf(place) : columnOf(place);
    }

    private static int linesOf(boolean isRow) {
        return isRow ? ROWS : COLUMNS;
    }

    private static int stepOf(boolean isRow) {
        return isRow ? COLUMNS : 1;
    }

    private static int placeInLine(int sheet, boolean isRow, int line, int across) {
        return placeOf(sheet, isRow ? line * COLUMNS + across : across * COLUMNS + line);
    }

    private static boolean isCode(int code) {
        return code >= LEAST_CODE && code <= LAST_CODE;
    }

    private static boolean isReference(int code) {
        return code >= 0 && code < FIRST_NAME;
    }

    private static boolean isName(int code) {
        return code >= FIRST_NAME && code <= LAST_CODE;
    }

    private static boolean isColumnFixed(int code) {
        return code / PLACES % 2 == 1;
    }

    private static boolean isRowFixed(int code) {
        return code / (2 * PLACES) == 1;
    }

    private static boolean isOfRange(int function) {
        return function >= SUM;
    }

    private static boolean hasTwo(int function, int one) {
        return !(isOfRange(function) && isName(one));
    }

    private static boolean hasThree(int function) {
        return function == CHOICE || function == FIND;
    }

    /** Whether two operands are references to cells of one sheet. */
    private static boolean areCorners(int one, int two) {
        return isReference(one) && isReference(two) && sheetOf(one % PLACES) == sheetOf(two % PLACES);
    }

    // ---- reckoning

    /** Reckons after a change. Answers how many formulas show another value then. */
    private int settle() {
        live.gatherAll(history.now());
        live.reckonAll(history.now());
        if (held) {
            return 0;
        }
        int changed = 0;
        for (int k = 0; k < live.formulaCount; k++) {
            if (isStale(live.formulas[k])) {
                changed++;
            }
        }
        shown.takeFrom(live.values);
        return changed;
    }

    private boolean isStale(int place) {
        return !shown.isAlike(live.values, place);
    }

    private int staleIn(int from, int end) {
        int stale = 0;
        for (int place = from; place < end; place++) {
            if (isStale(place)) {
                stale++;
            }
        }
        return stale;
    }

    private void tryNumber(int place, int quarters) {
        trialBook.takeFrom(history.now());
        trialBook.tellNumber(place, quarters);
        trial.gatherAll(trialBook);
        trial.reckonAll(trialBook);
    }

    // ---- sorting, groups and the digest

    /** Puts into rowOrder, row by row, which row comes there; top is the column's cell of row 0. */
    private void orderRows(int top, int from, int to, boolean isDown) {
        for (int row = from; row <= to; row++) {
            int at = row;
            while (at > from && isRowAhead(top, row, rowOrder[at - 1], isDown)) {
                rowOrder[at] = rowOrder[at - 1];
                at--;
            }
            rowOrder[at] = row;
        }
    }

    private boolean isRowAhead(int top, int row, int other, boolean isDown) {
        return shown.isAhead(top + row * COLUMNS, top + other * COLUMNS, isDown);
    }

    /** The first row with the smallest key above that of the row before (NONE: of all keys). */
    private int nextKeyRow(int keys, int summed, int before) {
        int next = NONE;
        for (int row = 0; row < ROWS; row++) {
            if (isGrouped(keys, summed, row)) {
                double key = shown.number[keys + row * COLUMNS];
                boolean isAbove = before == NONE || key > shown.number[keys + before * COLUMNS];
                if (isAbove && (next == NONE || key < shown.number[keys + next * COLUMNS])) {
                    next = row;
                }
            }
        }
        return next;
    }

    private boolean isGrouped(int keys, int summed, int row) {
        int down = row * COLUMNS;
        return !history.now().hidden[(keys + down) / COLUMNS]
                && shown.isDouble(keys + down) && shown.isDouble(summed + down);
    }

    private double groupTotal(int keys, int summed, double groupKey, boolean isSum) {
        double sum = 0.0;
        int rows = 0;
        for (int row = 0; row < ROWS; row++) {
            if (isGrouped(keys, summed, row) && shown.number[keys + row * COLUMNS] == groupKey) {
                sum = sum + shown.number[summed + row * COLUMNS];
                rows++;
            }
        }
        return isSum ? sum : rows;
    }

    private long digestCell(long before, int sheet, int cell) {
        long d = before * 31 + cell;
        for (int what = 0; what <= 9; what++) {
            d = d * 31 + ofCell(sheet, cell, what);
        }
        int place = placeOf(sheet, cell);
        Book book = history.now();
        d = d * 31 + (long) (64.0 * shown.doubleAt(place));
        // The writer's own room is measured: a text made for its length alone would fill the memory.
        writer.writeWords(book, place);
        d = d * 31 + writer.length();
        writer.writeShown(shown, place, book.digits[place]);
        return d * 31 + writer.length();
    }

    /** One value a place: nothing, a double or an error. */
    private static final class Values {
        final int[] kind = new int[PLACES];
        /** 0.0 where there is no double. */
        final double[] number = new double[PLACES];

        Values() {
            Arrays.fill(kind, NOTHING);
        }

        void takeFrom(Values other) {
            System.arraycopy(other.kind, 0, kind, 0, PLACES);
            System.arraycopy(other.number, 0, number, 0, PLACES);
        }

        void setNothing(int place) {
            kind[place] = NOTHING;
            number[place] = 0.0;
        }

        void setDouble(int place, double made) {
            kind[place] = DOUBLE;
            number[place] = made;
        }

        void setError(int place, int error) {
            kind[place] = error;
            number[place] = 0.0;
        }

        /** What a function makes: -0.0 becomes 0.0, and too great a double an error. */
        void setMade(int place, double made) {
            if (made > 1000000000.0 || made < -1000000000.0) {
                setError(place, GREAT);
            } else {
                setDouble(place, made == 0.0 ? 0.0 : made);
            }
        }

        boolean isDouble(int place) {
            return kind[place] == DOUBLE;
        }

        boolean isError(int place) {
            return kind[place] > DOUBLE;
        }

        int errorAt(int place) {
            return isError(place) ? kind[place] : 0;
        }

        double doubleAt(int place) {
            return isDouble(place) ? number[place] : 0.0;
        }

        boolean isAlike(Values other, int place) {
            return kind[place] == other.kind[place] && number[place] == other.number[place];
        }

        int errorsIn(int from, int end) {
            int errors = 0;
            for (int place = from; place < end; place++) {
                if (isError(place)) {
                    errors++;
                }
            }
            return errors;
        }

        /** Whether the one comes ahead of the other when rows are sorted (alike ones do not). */
        boolean isAhead(int one, int two, boolean isDown) {
            if (isDouble(one) && isDouble(two)) {
                return isDown ? number[one] > number[two] : number[one] < number[two];
            }
            return sortRank(one) < sortRank(two);
        }

        private int sortRank(int place) {
            return kind[place] == NOTHING ? GREAT + 1 : kind[place];
        }
    }

    /** The rectangle of cells between two corners on one sheet. */
    private static final class Area {
        int sheet;
        int top;
        int bottom;
        int left;
        int right;

        void lay(int one, int two) {
            sheet = sheetOf(one);
            top = Math.min(rowOf(one), rowOf(two));
            bottom = Math.max(rowOf(one), rowOf(two));
            left = Math.min(columnOf(one), columnOf(two));
            right = Math.max(columnOf(one), columnOf(two));
        }

        /** Lays itself over the range of a formula; answers false if that is lost. */
        boolean layRange(Book book, int place) {
            int one = book.operandAt(place, 0);
            int two = book.operandAt(place, 1);
            if (isName(one)) {
                int name = one - FIRST_NAME;
                one = book.nameOne[name];
                two = book.nameTwo[name];
            } else if (!areCorners(one, two)) {
                return false;
            }
            if (one == NONE || two == NONE) {
                return false;
            }
            lay(one % PLACES, two % PLACES);
            return true;
        }

        int first() {
            return placeAt(top, left);
        }

        int placeAt(int row, int column) {
            return placeOf(sheet, row * COLUMNS + column);
        }

        int size() {
            return (bottom - top + 1) * (right - left + 1);
        }

        long mask() {
            long line = ((1L << (right - left + 1)) - 1) << left;
            long mask = 0L;
            for (int row = top; row <= bottom; row++) {
                mask |= line << (row * COLUMNS);
            }
            return mask;
        }
    }

    /** All that is kept to be undone: what cells hold, names, hidden rows, digits and locks. */
    private static final class Book {
        /** EMPTY, NUMBER, or the function of a formula. */
        final int[] function = new int[PLACES];
        final int[] quarters = new int[PLACES];
        /** Three codes a place; those that are not needed are ZERO_CODE. */
        final int[] operands = new int[PLACES * OPERANDS];
        final int[] digits = new int[PLACES];
        final boolean[] locked = new boolean[PLACES];
        final boolean[] hidden = new boolean[LINES];
        final int[] nameOne = new int[NAMES];
        final int[] nameTwo = new int[NAMES];

        Book() {
            Arrays.fill(function, EMPTY);
            Arrays.fill(operands, ZERO_CODE);
            Arrays.fill(digits, MOST_DIGITS);
            Arrays.fill(nameOne, NONE);
            Arrays.fill(nameTwo, NONE);
        }

        void takeFrom(Book other) {
            System.arraycopy(other.function, 0, function, 0, PLACES);
            System.arraycopy(other.quarters, 0, quarters, 0, PLACES);
            System.arraycopy(other.operands, 0, operands, 0, PLACES * OPERANDS);
            System.arraycopy(other.digits, 0, digits, 0, PLACES);
            System.arraycopy(other.nameOne, 0, nameOne, 0, NAMES);
            System.arraycopy(other.nameTwo, 0, nameTwo, 0, NAMES);
            for (int place = 0; place < PLACES; place++) {
                locked[place] = other.locked[place];
            }
            for (int line = 0; line < LINES; line++) {
                hidden[line] = other.hidden[line];
            }
        }

        // -- what is held

        boolean isEmpty(int place) {
            return function[place] == EMPTY;
        }

        boolean isFormula(int place) {
            return function[place] >= PLUS;
        }

        int kindAt(int place) {
            return isEmpty(place) ? 0 : isFormula(place) ? 2 : 1;
        }

        int operandAt(int place, int nth) {
            return operands[place * OPERANDS + nth];
        }

        private void setOperand(int place, int nth, int code) {
            operands[place * OPERANDS + nth] = code;
        }

        void empty(int place) {
            tellNumber(place, 0);
            function[place] = EMPTY;
        }

        void tellNumber(int place, int told) {
            function[place] = NUMBER;
            quarters[place] = told;
            for (int nth = 0; nth < OPERANDS; nth++) {
                setOperand(place, nth, ZERO_CODE);
            }
        }

        void tellFormula(int place, int told, int one, int two, int three) {
            function[place] = told;
            quarters[place] = 0;
            setOperand(place, 0, one);
            setOperand(place, 1, hasTwo(told, one) ? two : ZERO_CODE);
            setOperand(place, 2, hasThree(told) ? three : ZERO_CODE);
        }

        private void takeCell(Book other, int from, int to) {
            function[to] = other.function[from];
            quarters[to] = other.quarters[from];
            for (int nth = 0; nth < OPERANDS; nth++) {
                setOperand(to, nth, other.operandAt(from, nth));
            }
        }

        // -- what is counted

        int heldIn(int from, int end) {
            int count = 0;
            for (int place = from; place < end; place++) {
                if (!isEmpty(place)) {
                    count++;
                }
            }
            return count;
        }

        int formulasIn(int from, int end) {
            int count = 0;
            for (int place = from; place < end; place++) {
                if (isFormula(place)) {
                    count++;
                }
            }
            return count;
        }

        int locksIn(int from, int end) {
            int count = 0;
            for (int place = from; place < end; place++) {
                if (locked[place]) {
                    count++;
                }
            }
            return count;
        }

        int hiddenSet(int sheet) {
            int set = 0;
            for (int row = 0; row < ROWS; row++) {
                if (hidden[sheet * ROWS + row]) {
                    set |= 1 << row;
                }
            }
            return set;
        }

        int heldInLine(int sheet, boolean isRow, int line) {
            int count = 0;
            for (int across = 0; across < linesOf(!isRow); across++) {
                if (!isEmpty(placeInLine(sheet, isRow, line, across))) {
                    count++;
                }
            }
            return count;
        }

        int lastHeldLine(int sheet, boolean isRow) {
            for (int line = linesOf(isRow) - 1; line >= 0; line--) {
                if (heldInLine(sheet, isRow, line) > 0) {
                    return line;
                }
            }
            return NONE;
        }

        boolean isLineLocked(int sheet, boolean isRow, int line) {
            for (int across = 0; across < linesOf(!isRow); across++) {
                if (locked[placeInLine(sheet, isRow, line, across)]) {
                    return true;
                }
            }
            return false;
        }

        int goneAt(int place) {
            int count = 0;
            for (int nth = 0; nth < OPERANDS; nth++) {
                if (operandAt(place, nth) == GONE) {
                    count++;
                }
            }
            return count;
        }

        int allGone() {
            int count = 0;
            for (int place = 0; place < PLACES; place++) {
                count += goneAt(place);
            }
            return count;
        }

        int formulasWith(int code) {
            int count = 0;
            for (int place = 0; place < PLACES; place++) {
                if (operandAt(place, 0) == code || operandAt(place, 1) == code || operandAt(place, 2) == code) {
                    count++;
                }
            }
            return count;
        }

        // -- copying, moving, sorting

        void copyCell(int from, int to) {
            takeCell(this, from, to);
            int columns = columnOf(to) - columnOf(from);
            int rows = rowOf(to) - rowOf(from);
            for (int nth = 0; nth < OPERANDS; nth++) {
                setOperand(to, nth, alongCode(operandAt(to, nth), columns, rows));
            }
        }

        private static int alongCode(int code, int columns, int rows) {
            if (!isReference(code)) {
                return code;
            }
            int place = code % PLACES;
            int column = columnOf(place) + (isColumnFixed(code) ? 0 : columns);
            int row = rowOf(place) + (isRowFixed(code) ? 0 : rows);
            if (column < 0 || column >= COLUMNS || row < 0 || row >= ROWS) {
                return GONE;
            }
            return code - place + placeOf(sheetOf(place), row * COLUMNS + column);
        }

        boolean isOneLocked(Area area, int butFor) {
            for (int row = area.top; row <= area.bottom; row++) {
                for (int column = area.left; column <= area.right; column++) {
                    int place = area.placeAt(row, column);
                    if (place != butFor && locked[place]) {
                        return true;
                    }
                }
            }
            return false;
        }

        int fillArea(Area area, int source) {
            for (int row = area.top; row <= area.bottom; row++) {
                for (int column = area.left; column <= area.right; column++) {
                    int place = area.placeAt(row, column);
                    if (place != source) {
                        copyCell(source, place);
                    }
                }
            }
            return area.size() - 1;
        }

        /** Answers how many operands follow the cell to its new place. */
        int moveCell(int from, int to) {
            if (from == to) {
                return 0;
            }
            takeCell(this, from, to);
            empty(from);
            int followed = 0;
            for (int at = 0; at < operands.length; at++) {
                int code = operands[at];
                if (isReference(code) && code % PLACES == from) {
                    operands[at] = code - from + to;
                    followed++;
                } else if (isReference(code) && code % PLACES == to) {
                    operands[at] = GONE;
                }
            }
            moveNames(from, to);
            return followed;
        }

        private void moveNames(int from, int to) {
            for (int name = 0; name < NAMES; name++) {
                boolean isLost = nameOne[name] == to || nameTwo[name] == to;
                nameOne[name] = nameOne[name] == from ? to : nameOne[name];
                nameTwo[name] = nameTwo[name] == from ? to : nameTwo[name];
                if (isLost || sheetOf(nameOne[name]) != sheetOf(nameTwo[name])) {
                    forgetName(name);
                }
            }
        }

        private void forgetName(int name) {
            nameOne[name] = NONE;
            nameTwo[name] = NONE;
        }

        /** Gets what a row held before; references to that row itself go along. */
        void layRow(Book before, int sheet, int from, int to) {
            for (int column = 0; column < COLUMNS; column++) {
                int place = placeOf(sheet, to * COLUMNS + column);
                takeCell(before, placeOf(sheet, from * COLUMNS + column), place);
                for (int nth = 0; nth < OPERANDS; nth++) {
                    int code = operandAt(place, nth);
                    if (isReference(code) && !isRowFixed(code)
                            && sheetOf(code % PLACES) == sheet && rowOf(code % PLACES) == from) {
                        setOperand(place, nth, code + (to - from) * COLUMNS);
                    }
                }
            }
        }

        // -- rows and columns

        int putIn(int sheet, boolean isRow, int at) {
            int farther = 0;
            for (int line = at; line < linesOf(isRow); line++) {
                farther += heldInLine(sheet, isRow, line);
            }
            Line put = new Line(sheet, isRow, at, true);
            goAlong(put);
            for (int line = linesOf(isRow) - 1; line > at; line--) {
                carryLine(put, line - 1, line);
            }
            wipeLine(put, at);
            return farther;
        }

        /** Answers how many operands of formulas that are left are gone by that. */
        int takeOut(int sheet, boolean isRow, int at) {
            for (int across = 0; across < linesOf(!isRow); across++) {
                empty(placeInLine(sheet, isRow, at, across));
            }
            Line taken = new Line(sheet, isRow, at, false);
            int gone = goAlong(taken);
            int last = linesOf(isRow) - 1;
            for (int line = at; line < last; line++) {
                carryLine(taken, line + 1, line);
            }
            wipeLine(taken, last);
            return gone;
        }

        /** Lets all references and corners go along with a line; answers how many operands are gone by it. */
        private int goAlong(Line line) {
            int gone = 0;
            for (int place = 0; place < PLACES; place++) {
                if (isFormula(place)) {
                    int before = goneAt(place);
                    formulaGoesAlong(line, place);
                    gone += goneAt(place) - before;
                }
            }
            for (int name = 0; name < NAMES; name++) {
                nameGoesAlong(line, name);
            }
            return gone;
        }

        private void formulaGoesAlong(Line line, int place) {
            int one = operandAt(place, 0);
            int two = operandAt(place, 1);
            if (isOfRange(function[place]) && areCorners(one, two)) {
                setOperand(place, 0, line.cornerThen(one, two));
                setOperand(place, 1, line.cornerThen(two, one));
            } else {
                setOperand(place, 0, line.referenceThen(one));
                setOperand(place, 1, line.referenceThen(two));
            }
            setOperand(place, 2, line.referenceThen(operandAt(place, 2)));
        }

        private void nameGoesAlong(Line line, int name) {
            int one = nameOne[name];
            int two = nameTwo[name];
            if (one == NONE || two == NONE) {
                return;
            }
            nameOne[name] = line.cornerThen(one, two);
            nameTwo[name] = line.cornerThen(two, one);
            if (nameOne[name] == GONE || nameTwo[name] == GONE) {
                forgetName(name);
            }
        }

        private void carryLine(Line line, int from, int to) {
            for (int across = 0; across < linesOf(!line.isRow); across++) {
                int source = placeInLine(line.sheet, line.isRow, from, across);
                int target = placeInLine(line.sheet, line.isRow, to, across);
                takeCell(this, source, target);
                digits[target] = digits[source];
                locked[target] = locked[source];
            }
            if (line.isRow) {
                hidden[line.sheet * ROWS + to] = hidden[line.sheet * ROWS + from];
            }
        }

        private void wipeLine(Line line, int at) {
            for (int across = 0; across < linesOf(!line.isRow); across++) {
                int place = placeInLine(line.sheet, line.isRow, at, across);
                empty(place);
                digits[place] = MOST_DIGITS;
                locked[place] = false;
            }
            if (line.isRow) {
                hidden[line.sheet * ROWS + at] = false;
            }
        }
    }

    /** A row or column that is put in or taken out, and what codes become by that. */
    private static final class Line {
        final int sheet;
        final boolean isRow;
        final int at;
        final boolean isPut;

        Line(int sheet, boolean isRow, int at, boolean isPut) {
            this.sheet = sheet;
            this.isRow = isRow;
            this.at = at;
            this.isPut = isPut;
        }

        private boolean isThere(int code) {
            return isReference(code) && sheetOf(code % PLACES) == sheet;
        }

        int referenceThen(int code) {
            if (!isThere(code)) {
                return code;
            }
            int line = lineOf(code % PLACES, isRow);
            if (line < at) {
                return code;
            }
            if (line == (isPut ? linesOf(isRow) - 1 : at)) {
                return GONE;
            }
            return isPut ? code + stepOf(isRow) : code - stepOf(isRow);
        }

        /** Of a corner whose other one is on the same sheet. */
        int cornerThen(int code, int other) {
            if (!isThere(code)) {
                return code;
            }
            int line = lineOf(code % PLACES, isRow);
            int otherLine = lineOf(other % PLACES, isRow);
            if (isPut) {
                return line == linesOf(isRow) - 1 ? code : referenceThen(code);
            }
            if (line != at || otherLine == at) {
                return referenceThen(code);
            }
            return line < otherLine ? code : code - stepOf(isRow);
        }
    }

    /** The book as it is, and those ahead of it and behind it that can be gone back and forth to. */
    private static final class History {
        private final Book[] books = new Book[MOST_KEPT + 1];
        private int at;
        int undos;
        int redos;

        History() {
            for (int k = 0; k <= MOST_KEPT; k++) {
                books[k] = new Book();
            }
        }

        Book now() {
            return books[at];
        }

        /** Keeps the book as it is and answers a like one to be changed. */
        Book keep() {
            Book before = books[at];
            at = (at + 1) % (MOST_KEPT + 1);
            books[at].takeFrom(before);
            undos = Math.min(undos + 1, MOST_KEPT);
            redos = 0;
            return books[at];
        }

        void goBack() {
            at = (at + MOST_KEPT) % (MOST_KEPT + 1);
            undos--;
            redos++;
        }

        void goForth() {
            at = (at + 1) % (MOST_KEPT + 1);
            undos++;
            redos--;
        }
    }

    /** Who needs whom in a book, and the values that come of it. Sets of cells are masks, a sheet each. */
    private static final class Reckoner {
        final Values values = new Values();
        final int[] formulas = new int[PLACES];
        final int[] deep = new int[PLACES];
        int formulaCount;
        private final Area area = new Area();
        private final Tally tally = new Tally();
        private final int[] order = new int[PLACES];
        private int ordered;
        private final long[][] needs = new long[SHEETS][PLACES];
        private final long[][] reach = new long[SHEETS][PLACES];
        private final long[] circles = new long[SHEETS];
        private final long[] undone = new long[SHEETS];
        private final long[] done = new long[SHEETS];
        private final int[] nameFirst = new int[NAMES];
        private int seenKind;
        private double seenNumber;

        /** Reckons again after another number was told in a cell that holds one already. */
        void reckonFollowers(Book book, int place) {
            values.setDouble(place, book.quarters[place] / 4.0);
            for (int k = 0; k < ordered; k++) {
                if (isIn(reach, order[k], place)) {
                    reckonFormula(book, order[k]);
                }
            }
        }

        // -- who needs whom

        void gatherAll(Book book) {
            for (int name = 0; name < NAMES; name++) {
                boolean isNamed = book.nameOne[name] != NONE && book.nameTwo[name] != NONE;
                if (isNamed) {
                    area.lay(book.nameOne[name], book.nameTwo[name]);
                }
                nameFirst[name] = isNamed ? area.first() : NONE;
            }
            formulaCount = 0;
            for (int place = 0; place < PLACES; place++) {
                needs[0][place] = 0L;
                needs[1][place] = 0L;
                if (book.isFormula(place)) {
                    formulas[formulaCount] = place;
                    formulaCount++;
                    gatherNeeds(book, place);
                }
            }
            followNeeds();
            findCircles();
        }

        private void gatherNeeds(Book book, int place) {
            boolean isOfRange = isOfRange(book.function[place]);
            if (isOfRange && area.layRange(book, place)) {
                needs[area.sheet][place] |= area.mask();
            }
            for (int nth = isOfRange ? 2 : 0; nth < OPERANDS; nth++) {
                int needed = cellNamed(book.operandAt(place, nth));
                if (needed != NONE) {
                    needs[sheetOf(needed)][place] |= 1L << (needed % CELLS);
                }
            }
        }

        /** The one cell that an operand names, or NONE. */
        private int cellNamed(int code) {
            if (isReference(code)) {
                return code % PLACES;
            }
            return isName(code) ? nameFirst[code - FIRST_NAME] : NONE;
        }

        private void followNeeds() {
            System.arraycopy(needs[0], 0, reach[0], 0, PLACES);
            System.arraycopy(needs[1], 0, reach[1], 0, PLACES);
            for (int k = 0; k < formulaCount; k++) {
                int middle = formulas[k];
                for (int n = 0; n < formulaCount; n++) {
                    if (isIn(reach, formulas[n], middle)) {
                        reach[0][formulas[n]] |= reach[0][middle];
                        reach[1][formulas[n]] |= reach[1][middle];
                    }
                }
            }
        }

        private static boolean isIn(long[][] sets, int place, int other) {
            return (sets[sheetOf(other)][place] >>> (other % CELLS) & 1L) == 1L;
        }

        private static boolean doMeet(long[][] sets, int place, long[] set) {
            return (sets[0][place] & set[0]) != 0L || (sets[1][place] & set[1]) != 0L;
        }

        private static boolean isOf(long[] set, int place) {
            return (set[sheetOf(place)] >>> (place % CELLS) & 1L) == 1L;
        }

        private static void addTo(long[] set, int place) {
            set[sheetOf(place)] |= 1L << (place % CELLS);
        }

        private static void clearSet(long[] set) {
            set[0] = 0L;
            set[1] = 0L;
        }

        private void findCircles() {
            clearSet(circles);
            for (int k = 0; k < formulaCount; k++) {
                if (isIn(reach, formulas[k], formulas[k])) {
                    addTo(circles, formulas[k]);
                }
            }
        }

        int needsOf(int place) {
            return Long.bitCount(needs[0][place]) + Long.bitCount(needs[1][place]);
        }

        int reachOf(int place) {
            return Long.bitCount(reach[0][place]) + Long.bitCount(reach[1][place]);
        }

        int needersOf(int place) {
            int count = 0;
            for (int k = 0; k < formulaCount; k++) {
                if (isIn(needs, formulas[k], place)) {
                    count++;
                }
            }
            return count;
        }

        int circleCount() {
            return Long.bitCount(circles[0]) + Long.bitCount(circles[1]);
        }

        int deepest() {
            int most = 0;
            for (int k = 0; k < formulaCount; k++) {
                most = Math.max(most, deep[formulas[k]]);
            }
            return most;
        }

        // -- values

        /** Those that are as deep as each other are reckoned together, the least deep ones first. */
        void reckonAll(Book book) {
            startValues(book);
            ordered = 0;
            for (int level = 1; level <= PLACES && (undone[0] | undone[1]) != 0L; level++) {
                clearSet(done);
                for (int k = 0; k < formulaCount; k++) {
                    int place = formulas[k];
                    if (isOf(undone, place) && !doMeet(needs, place, undone)) {
                        reckonFormula(book, place);
                        deep[place] = doMeet(reach, place, circles) ? NONE : level;
                        order[ordered] = place;
                        ordered++;
                        addTo(done, place);
                    }
                }
                undone[0] &= ~done[0];
                undone[1] &= ~done[1];
            }
        }

        private void startValues(Book book) {
            clearSet(undone);
            for (int place = 0; place < PLACES; place++) {
                deep[place] = 0;
                if (book.isEmpty(place)) {
                    values.setNothing(place);
                } else if (!book.isFormula(place)) {
                    values.setDouble(place, book.quarters[place] / 4.0);
                } else if (isOf(circles, place)) {
                    values.setError(place, CIRCLE);
                    deep[place] = NONE;
                } else {
                    addTo(undone, place);
                }
            }
        }

        private void reckonFormula(Book book, int place) {
            int function = book.function[place];
            if (function == FIND) {
                reckonFind(book, place);
            } else if (isOfRange(function)) {
                reckonRange(book, place, function);
            } else if (function == CHOICE) {
                reckonChoice(book, place);
            } else {
                reckonTwo(book, place, function);
            }
        }

        /** Puts what an operand is into seenKind (a double or an error) and seenNumber. */
        private void look(int code) {
            seenKind = DOUBLE;
            seenNumber = 0.0;
            if (code < 0) {
                seenNumber = (code - ZERO_CODE) / 4.0;
                return;
            }
            int place = cellNamed(code);
            if (place == NONE) {
                seenKind = LOST;
            } else {
                lookAt(place);
            }
        }

        private void lookAt(int place) {
            int kind = values.kind[place];
            seenKind = kind == NOTHING ? DOUBLE : kind;
            seenNumber = values.number[place];
        }

        private void answerSeen(int place) {
            if (seenKind == DOUBLE) {
                values.setMade(place, seenNumber);
            } else {
                values.setError(place, seenKind);
            }
        }

        private void reckonTwo(Book book, int place, int function) {
            look(book.operandAt(place, 0));
            if (seenKind != DOUBLE) {
                answerSeen(place);
                return;
            }
            double one = seenNumber;
            look(book.operandAt(place, 1));
            if (seenKind != DOUBLE) {
                answerSeen(place);
            } else if (function == BY && seenNumber == 0.0) {
                values.setError(place, DIVISION);
            } else {
                values.setMade(place, madeOfTwo(function, one, seenNumber));
            }
        }

        private static double madeOfTwo(int function, double one, double two) {
            switch (function) {
                case PLUS:
                    return one + two;
                case LESS:
                    return one - two;
                case TIMES:
                    return one * two;
                case BY:
                    return two == 0.0 ? 0.0 : one / two;
                case LESSER:
                    return two < one ? two : one;
                case GREATER:
                    return two > one ? two : one;
                case BELOW:
                    return one < two ? 1.0 : 0.0;
                default:
                    return one == two ? 1.0 : 0.0;
            }
        }

        private void reckonChoice(Book book, int place) {
            look(book.operandAt(place, 0));
            if (seenKind == DOUBLE) {
                look(book.operandAt(place, seenNumber != 0.0 ? 1 : 2));
            }
            answerSeen(place);
        }

        private void reckonRange(Book book, int place, int function) {
            if (!area.layRange(book, place)) {
                values.setError(place, LOST);
                return;
            }
            tally.begin();
            for (int row = area.top; row <= area.bottom; row++) {
                boolean isSeen = function != SHOWN || !book.hidden[area.sheet * ROWS + row];
                for (int column = area.left; isSeen && column <= area.right; column++) {
                    int cell = area.placeAt(row, column);
                    if (values.isError(cell)) {
                        values.setError(place, values.kind[cell]);
                        return;
                    }
                    if (values.isDouble(cell)) {
                        tally.meet(values.number[cell]);
                    }
                }
            }
            if (function == MEAN && tally.count == 0) {
                values.setError(place, DIVISION);
            } else {
                values.setMade(place, tally.made(function));
            }
        }

        private void reckonFind(Book book, int place) {
            look(book.operandAt(place, 2));
            if (seenKind != DOUBLE) {
                answerSeen(place);
                return;
            }
            double wanted = seenNumber;
            if (!area.layRange(book, place)) {
                values.setError(place, LOST);
                return;
            }
            for (int row = area.top; row <= area.bottom; row++) {
                int cell = area.placeAt(row, area.left);
                if (values.isDouble(cell) && values.number[cell] == wanted) {
                    lookAt(area.placeAt(row, area.right));
                    answerSeen(place);
                    return;
                }
            }
            values.setError(place, MISSING);
        }
    }

    /** What is met in a range, and what functions make of it. */
    private static final class Tally {
        int count;
        private double sum;
        private double least;
        private double most;

        void begin() {
            count = 0;
            sum = 0.0;
            least = 0.0;
            most = 0.0;
        }

        void meet(double met) {
            sum = sum + met;
            least = count == 0 || met < least ? met : least;
            most = count == 0 || met > most ? met : most;
            count++;
        }

        double made(int function) {
            switch (function) {
                case COUNT:
                    return count;
                case MEAN:
                    return count == 0 ? 0.0 : sum / count;
                case LEAST:
                    return least;
                case MOST:
                    return most;
                default:
                    return sum;
            }
        }
    }

    /** Writes words of formulas and what cells show, always into the same room. */
    private static final class Writer {
        private final StringBuilder signs = new StringBuilder();

        String written() {
            return signs.toString();
        }

        int length() {
            return signs.length();
        }

        void writeWords(Book book, int place) {
            signs.setLength(0);
            if (book.isFormula(place)) {
                writeFormula(book, place);
            } else if (!book.isEmpty(place)) {
                writeQuarters(book.quarters[place]);
            }
        }

        private void writeFormula(Book book, int place) {
            int function = book.function[place];
            int one = book.operandAt(place, 0);
            signs.append('=');
            signs.append(wordOf(function));
            signs.append('(');
            writeOperand(one, sheetOf(place));
            if (hasTwo(function, one)) {
                signs.append(isOfRange(function) ? ':' : ',');
                writeOperand(book.operandAt(place, 1), sheetOf(place));
            }
            if (hasThree(function)) {
                signs.append(',');
                writeOperand(book.operandAt(place, 2), sheetOf(place));
            }
            signs.append(')');
        }

        private void writeQuarters(int quarters) {
            signs.append(quarters);
            signs.append('q');
        }

        private void writeOperand(int code, int own) {
            if (code == GONE) {
                signs.append('?');
            } else if (isName(code)) {
                signs.append('N');
                signs.append(code - FIRST_NAME);
            } else if (isReference(code)) {
                writeReference(code, own);
            } else {
                writeQuarters(code - ZERO_CODE);
            }
        }

        private void writeReference(int code, int own) {
            int place = code % PLACES;
            if (sheetOf(place) != own) {
                signs.append('S');
                signs.append(sheetOf(place));
                signs.append('!');
            }
            if (isColumnFixed(code)) {
                signs.append('$');
            }
            signs.append((char) ('A' + columnOf(place)));
            if (isRowFixed(code)) {
                signs.append('$');
            }
            signs.append(rowOf(place) + 1);
        }

        private static String wordOf(int function) {
            switch (function) {
                case PLUS:
                    return "PLUS";
                case LESS:
                    return "LESS";
                case TIMES:
                    return "TIMES";
                case BY:
                    return "BY";
                case LESSER:
                    return "LESSER";
                case GREATER:
                    return "GREATER";
                case BELOW:
                    return "BELOW";
                case SAME:
                    return "SAME";
                case CHOICE:
                    return "CHOICE";
                case SUM:
                    return "SUM";
                case COUNT:
                    return "COUNT";
                case MEAN:
                    return "MEAN";
                case LEAST:
                    return "LEAST";
                case MOST:
                    return "MOST";
                case SHOWN:
                    return "SHOWN";
                default:
                    return "FIND";
            }
        }

        void writeShown(Values values, int place, int digits) {
            signs.setLength(0);
            if (values.isError(place)) {
                signs.append('!');
                signs.append(values.errorAt(place));
            } else if (values.isDouble(place)) {
                writeDouble(values.number[place], digits);
            }
        }

        private void writeDouble(double number, int digits) {
            double scale = digits == 0 ? 1.0 : digits == 1 ? 10.0 : 100.0;
            long whole = nearest(scale * number);
            if (whole >= 1000000L || whole <= -1000000L) {
                signs.append('#');
                return;
            }
            if (whole < 0L) {
                signs.append('-');
            }
            int size = (int) Math.abs(whole);
            if (digits == 0) {
                signs.append(size);
            } else if (digits == 1) {
                signs.append(size / 10);
                signs.append('.');
                signs.append(size % 10);
            } else {
                signs.append(size / 100);
                signs.append('.');
                signs.append(size / 10 % 10);
                signs.append(size % 10);
            }
        }

        /** The nearest whole number, of two as near the even one. */
        private static long nearest(double exact) {
            long whole = (long) exact;
            double rest = exact - whole;
            boolean isOdd = whole % 2L != 0L;
            if (rest > 0.5 || rest == 0.5 && isOdd) {
                return whole + 1L;
            }
            if (rest < -0.5 || rest == -0.5 && isOdd) {
                return whole - 1L;
            }
            return whole;
        }
    }
}
