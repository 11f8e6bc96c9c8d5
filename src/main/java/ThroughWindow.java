import java.util.NoSuchElementException;

/**
 * Walls of rows under laws, windows that show them, and edits made in what is shown.
 *
 * All rows and views that a call needs are made in the constructors and used again, because the
 * calls of a run share one room: no call of the face makes an object but for the exception of value().
 */
public final class ThroughWindow {
    public static final int NONE = -1;

    private static final int WALLS = 3;
    private static final int WALL_COLUMNS = 4;
    private static final int WALL_ROWS = 10;
    private static final int VALUES = 20;
    private static final int WINDOWS = 6;
    private static final int WINDOW_COLUMNS = 8;
    private static final int MOST_PANES = 6;
    private static final int BOUNDS = 200;
    private static final int TAPE_SIGNS = 1000;
    private static final int MARKS = 4;
    private static final int CLERKS = 3;
    private static final int PLACES = 80;

    private static final int CHANGE = 0;
    private static final int DROP = 1;
    private static final int ADD = 2;

    private static final int CUT_LESS = 0;
    private static final int CUT_IS = 1;
    private static final int CUT_MORE = 2;
    private static final int FEW = 3;
    private static final int JOIN = 4;
    private static final int SUM = 5;

    private static final int SPAN_LAW = 1;
    private static final int NAMES_LAW = 2;
    private static final int ONCE_LAW = 3;

    private final Laws laws;
    private final Rows walls;
    private final Rows ahead;
    private boolean anyPut;
    private final Rows[] marks;
    private final boolean[] marked;
    private final Lens[] lenses;
    private final Reader reader;
    private final int[] draft;
    private final Desk desk;
    private final Cutter cutter;
    private final Clerks clerks;
    private final int[] fresh;
    private final Rows one;
    private final Rows two;

    public ThroughWindow() {
        laws = new Laws();
        walls = new Rows();
        ahead = new Rows();
        marks = new Rows[MARKS];
        for (int m = 0; m < MARKS; m++) {
            marks[m] = new Rows();
        }
        marked = new boolean[MARKS];
        lenses = new Lens[WINDOWS];
        for (int w = 0; w < WINDOWS; w++) {
            lenses[w] = new Lens();
        }
        reader = new Reader(laws, lenses);
        draft = new int[WINDOW_COLUMNS];
        desk = new Desk(laws, lenses, draft);
        cutter = new Cutter(laws);
        clerks = new Clerks();
        fresh = new int[WALL_COLUMNS];
        one = new Rows();
        two = new Rows();
    }

    public boolean wall(int wall, int columns) {
        if (wall < 0 || wall >= WALLS || laws.told(wall) || columns < 1 || columns > WALL_COLUMNS) {
            return false;
        }
        laws.columns[wall] = columns;
        return true;
    }

    public boolean row(int wall, int a, int b, int c, int d) {
        if (!laws.told(wall) || walls.size[wall] >= WALL_ROWS) {
            return false;
        }
        fresh[0] = a;
        fresh[1] = b;
        fresh[2] = c;
        fresh[3] = d;
        for (int column = 0; column < WALL_COLUMNS; column++) {
            if (column >= laws.columns[wall]) {
                fresh[column] = 0;
            } else if (fresh[column] < 0 || fresh[column] >= VALUES) {
                return false;
            }
        }
        if (walls.has(wall, a)) {
            return false;
        }
        walls.add(wall, fresh);
        if (laws.hold(walls)) {
            return true;
        }
        walls.drop(wall, a);
        return false;
    }

    public boolean out(int wall, int key) {
        if (!laws.told(wall) || !walls.has(wall, key)) {
            return false;
        }
        one.copyFrom(walls);
        one.drop(wall, key);
        if (!laws.hold(one)) {
            return false;
        }
        walls.copyFrom(one);
        return true;
    }

    public boolean span(int wall, int column, int from, int to) {
        if (!laws.has(wall, column) || !isSpan(from, to) || walls.outside(wall, column, from, to) > 0) {
            return false;
        }
        laws.from[lawPlace(wall, column)] = from;
        laws.to[lawPlace(wall, column)] = to;
        return true;
    }

    public boolean names(int wall, int column, int other) {
        if (!laws.has(wall, column) || column == 0 || other == wall) {
            return false;
        }
        if (other != NONE && !laws.told(other)) {
            return false;
        }
        int place = lawPlace(wall, column);
        int old = laws.named[place];
        laws.named[place] = other;
        if (laws.hold(walls)) {
            return true;
        }
        laws.named[place] = old;
        return false;
    }

    public boolean once(int wall, int column, boolean yes) {
        if (!laws.has(wall, column) || column == 0) {
            return false;
        }
        int place = lawPlace(wall, column);
        boolean old = laws.single[place];
        laws.single[place] = yes;
        if (laws.hold(walls)) {
            return true;
        }
        laws.single[place] = old;
        return false;
    }

    public int feed(long a, long b, long c) {
        reader.take(a);
        reader.take(b);
        reader.take(c);
        return reader.length;
    }

    public int window(int window) {
        if (window < 0 || window >= WINDOWS || isUnderAnother(window)) {
            reader.length = 0;
            return NONE;
        }
        return reader.read(window);
    }

    public int value(int wall, int key, int column) throws NoSuchElementException {
        if (!laws.has(wall, column) || !walls.has(wall, key)) {
            throw new NoSuchElementException();
        }
        return walls.cell[cellPlace(wall, key) + column];
    }

    public int seen(int window, int i, int j) {
        View view = desk.now;
        if (!desk.looks(walls, window) || !view.has(i, j)) {
            return NONE;
        }
        return view.valueAt(i, j);
    }

    public int source(int window, int i, int j, int what) {
        View view = desk.now;
        if (!desk.looks(walls, window) || !view.has(i, j)) {
            return NONE;
        }
        int cell = view.sourceAt(i, j);
        if (cell == NONE) {
            return NONE;
        }
        switch (what) {
            case 0: return cell / (VALUES * WALL_COLUMNS);
            case 1: return cell / WALL_COLUMNS % VALUES;
            case 2: return cell % WALL_COLUMNS;
            default: return NONE;
        }
    }

    public int look(int window, int what) {
        if (!desk.looks(walls, window)) {
            return NONE;
        }
        Lens lens = lenses[window];
        switch (what) {
            case 0: return desk.now.rows;
            case 1: return lens.columns;
            case 2: return lens.panes;
            case 3: return lens.base;
            case 4: return lens.wallBits;
            default: return NONE;
        }
    }

    public boolean draft(int column, int n) {
        if (column < 0 || column >= WINDOW_COLUMNS || n < 0 || n >= VALUES) {
            return false;
        }
        draft[column] = n;
        return true;
    }

    public int ways(int window, int edit, int i, int j, int v) {
        if (!desk.opens(walls, window, edit, i, j, v)) {
            return NONE;
        }
        desk.search(walls, window, NONE, false);
        return desk.found;
    }

    public int way(int window, int edit, int i, int j, int v, int n, int what) {
        if (n < NONE || !desk.opens(walls, window, edit, i, j, v)) {
            return NONE;
        }
        desk.search(walls, window, n, n == NONE);
        Step step = n == NONE ? desk.least : desk.picked;
        switch (what) {
            case 0: return step.price;
            case 1: return step.kind;
            case 2: return step.wall;
            case 3: return step.key;
            case 4: return step.column;
            case 5: return step.value;
            default: return NONE;
        }
    }

    public int why(int window, int edit, int i, int j, int v) {
        if (!desk.opens(walls, window, edit, i, j, v)) {
            return NONE;
        }
        return desk.goesStraight(walls, window, edit, i, j, v) ? desk.faultsOfTrial(window) : 1;
    }

    public int barred(int window, int edit, int i, int j, int v, int what) {
        if (!desk.opens(walls, window, edit, i, j, v)
                || !desk.goesStraight(walls, window, edit, i, j, v)) {
            return NONE;
        }
        int law = laws.firstBroken(desk.trial);
        if (law == NONE) {
            return NONE;
        }
        switch (what) {
            case 0: return law / 4 / WALL_COLUMNS;
            case 1: return law / 4 % WALL_COLUMNS;
            case 2: return law % 4;
            default: return NONE;
        }
    }

    public int put(int window, int edit, int i, int j, int v) {
        one.copyFrom(walls);
        int price = desk.putOn(walls, window, edit, i, j, v);
        if (price != NONE) {
            ahead.copyFrom(one);
            anyPut = true;
        }
        return price;
    }

    public int twice(int window, int i, int j, int u, int v) {
        if (!desk.opens(walls, window, CHANGE, i, j, u) || !desk.opens(walls, window, CHANGE, i, j, v)) {
            return NONE;
        }
        one.copyFrom(walls);
        two.copyFrom(walls);
        boolean can = desk.putOn(one, window, CHANGE, i, j, u) != NONE
                && desk.putOn(one, window, CHANGE, i, j, v) != NONE
                && desk.putOn(two, window, CHANGE, i, j, v) != NONE;
        return can && one.same(two) ? 1 : 0;
    }

    public int back(int window, int i, int j, int v) {
        if (!desk.opens(walls, window, CHANGE, i, j, v)) {
            return NONE;
        }
        int old = desk.now.valueAt(i, j);
        one.copyFrom(walls);
        boolean can = desk.putOn(one, window, CHANGE, i, j, v) != NONE
                && desk.putOn(one, window, CHANGE, i, j, old) != NONE;
        return can && one.same(walls) ? 1 : 0;
    }

    public int clash(int a, int p, int v, int b, int q, int w) {
        int i = p / WINDOW_COLUMNS;
        int j = p % WINDOW_COLUMNS;
        int k = q / WINDOW_COLUMNS;
        int l = q % WINDOW_COLUMNS;
        if (p < 0 || q < 0 || !desk.opens(walls, a, CHANGE, i, j, v) || !desk.opens(walls, b, CHANGE, k, l, w)) {
            return NONE;
        }
        one.copyFrom(walls);
        two.copyFrom(walls);
        boolean aThenB = desk.putOn(one, a, CHANGE, i, j, v) != NONE && desk.putOn(one, b, CHANGE, k, l, w) != NONE;
        boolean bThenA = desk.putOn(two, b, CHANGE, k, l, w) != NONE && desk.putOn(two, a, CHANGE, i, j, v) != NONE;
        if (aThenB && bThenA) {
            return one.same(two) ? 0 : 1;
        }
        return aThenB ? 2 : bThenA ? 3 : 4;
    }

    public int fits(int window, int wall) {
        if (!laws.told(wall) || !desk.looks(walls, window)) {
            return NONE;
        }
        return cutter.countFits(walls, wall, desk.now);
    }

    public boolean clerk(int clerk, int window, int place, int v) {
        if (clerk < 0 || clerk >= CLERKS) {
            return false;
        }
        if (window == NONE) {
            clerks.windows[clerk] = NONE;
            return true;
        }
        if (!desk.isTold(window) || place < 0 || place >= PLACES || v < 0 || v >= BOUNDS) {
            return false;
        }
        clerks.windows[clerk] = window;
        clerks.places[clerk] = place;
        clerks.values[clerk] = v;
        return true;
    }

    public int night(int what) {
        if (what < 0 || what > 3) {
            return NONE;
        }
        clerks.beginNight();
        if (what == 3) {
            return clerks.orders;
        }
        for (int order = 0; order < clerks.orders; order++) {
            one.copyFrom(walls);
            int done = 0;
            for (int turn = 0; turn < clerks.busyCount; turn++) {
                int clerk = clerks.clerkAt(order, turn);
                int i = clerks.places[clerk] / WINDOW_COLUMNS;
                int j = clerks.places[clerk] % WINDOW_COLUMNS;
                if (desk.putOn(one, clerks.windows[clerk], CHANGE, i, j, clerks.values[clerk]) != NONE) {
                    done++;
                }
            }
            clerks.endOrder(one, done);
        }
        return what == 0 ? clerks.whole : what == 1 ? clerks.endCount : clerks.most;
    }

    public int carried(int window, int what) {
        if (!anyPut || what < 0 || what > 1 || !desk.looks(walls, window)) {
            return NONE;
        }
        View old = desk.shown.show(lenses, window, ahead);
        int shared = desk.now.countShared(old);
        return what == 0 ? desk.now.rows - shared : old.rows - shared;
    }

    public int cuts(int wall, int set, int what) {
        if (!laws.told(wall) || set < 0 || set >= 1 << walls.size[wall] || what < 0 || what > 3) {
            return NONE;
        }
        cutter.findCuts(walls, wall, walls.keysOf(wall, set));
        switch (what) {
            case 0: return cutter.total;
            case 1: return cutter.firstColumn;
            case 2: return cutter.firstKind;
            default: return cutter.firstBound;
        }
    }

    public int moves(int wall, int column, int from, int to) {
        if (!laws.has(wall, column) || !isSpan(from, to)) {
            return NONE;
        }
        return walls.outside(wall, column, from, to);
    }

    public boolean mark(int mark, boolean back) {
        if (mark < 0 || mark >= MARKS) {
            return false;
        }
        if (!back) {
            marks[mark].copyFrom(walls);
            marked[mark] = true;
            return true;
        }
        if (!marked[mark] || !laws.hold(marks[mark])) {
            return false;
        }
        walls.copyFrom(marks[mark]);
        return true;
    }

    public int count(int what) {
        if (what >= 0 && what < WALLS) {
            return laws.told(what) ? walls.size[what] : NONE;
        }
        switch (what) {
            case 3: return countTold();
            case 4: return reader.length;
            case 5: return walls.sumOfValues();
            default: return NONE;
        }
    }

    private int countTold() {
        int told = 0;
        for (int w = 0; w < WINDOWS; w++) {
            if (lenses[w].told) {
                told++;
            }
        }
        return told;
    }

    private boolean isUnderAnother(int window) {
        for (int w = 0; w < WINDOWS; w++) {
            if (lenses[w].told && lenses[w].under == window) {
                return true;
            }
        }
        return false;
    }

    private static boolean isSpan(int from, int to) {
        return from >= 0 && from <= to && to < VALUES;
    }

    private static int lawPlace(int wall, int column) {
        return wall * WALL_COLUMNS + column;
    }

    private static int cellPlace(int wall, int key) {
        return (wall * VALUES + key) * WALL_COLUMNS;
    }

    private static boolean hasBit(long bits, int place) {
        return (bits >> place & 1) != 0;
    }

    private static boolean passes(int cut, int value, int bound) {
        return cut == CUT_LESS ? value < bound : cut == CUT_IS ? value == bound : value > bound;
    }

    /**
     * The rows of all walls. A row lies at the place of its key, so that rows are in order and a key
     * is looked up without a search; cells of a row that is not there are always alike (the key's is
     * NONE, others 0), so that two states can be compared cell by cell.
     */
    private static final class Rows {
        final int[] cell = new int[WALLS * VALUES * WALL_COLUMNS];
        final int[] size = new int[WALLS];

        Rows() {
            for (int at = 0; at < cell.length; at += WALL_COLUMNS) {
                cell[at] = NONE;
            }
        }

        boolean has(int wall, int key) {
            return key >= 0 && key < VALUES && cell[(wall * VALUES + key) * WALL_COLUMNS] != NONE;
        }

        void add(int wall, int[] row) {
            System.arraycopy(row, 0, cell, cellPlace(wall, row[0]), WALL_COLUMNS);
            size[wall]++;
        }

        void drop(int wall, int key) {
            int at = cellPlace(wall, key);
            cell[at] = NONE;
            for (int column = 1; column < WALL_COLUMNS; column++) {
                cell[at + column] = 0;
            }
            size[wall]--;
        }

        void copyFrom(Rows other) {
            System.arraycopy(other.cell, 0, cell, 0, cell.length);
            System.arraycopy(other.size, 0, size, 0, size.length);
        }

        boolean same(Rows other) {
            for (int at = 0; at < cell.length; at++) {
                if (cell[at] != other.cell[at]) {
                    return false;
                }
            }
            return true;
        }

        int outside(int wall, int column, int from, int to) {
            int rows = 0;
            for (int key = 0; key < VALUES; key++) {
                int at = cellPlace(wall, key);
                if (cell[at] != NONE && (cell[at + column] < from || cell[at + column] > to)) {
                    rows++;
                }
            }
            return rows;
        }

        /** A set of rows counted from the least key on, as a set of keys. */
        int keysOf(int wall, int set) {
            int keys = 0;
            int row = 0;
            for (int key = 0; key < VALUES; key++) {
                if (has(wall, key)) {
                    keys |= (set >> row & 1) << key;
                    row++;
                }
            }
            return keys;
        }

        int sumOfValues() {
            int sum = 0;
            for (int at = 0; at < cell.length; at++) {
                if (cell[at] != NONE) {
                    sum += cell[at];
                }
            }
            return sum;
        }
    }

    /** The columns of the walls and the laws on them. */
    private static final class Laws {
        final int[] columns = new int[WALLS];
        final int[] from = new int[WALLS * WALL_COLUMNS];
        final int[] to = new int[WALLS * WALL_COLUMNS];
        final int[] named = new int[WALLS * WALL_COLUMNS];
        final boolean[] single = new boolean[WALLS * WALL_COLUMNS];

        Laws() {
            for (int place = 0; place < to.length; place++) {
                to[place] = VALUES - 1;
                named[place] = NONE;
            }
        }

        boolean told(int wall) {
            return wall >= 0 && wall < WALLS && columns[wall] > 0;
        }

        boolean has(int wall, int column) {
            return told(wall) && column >= 0 && column < columns[wall];
        }

        boolean hold(Rows walls) {
            return firstBroken(walls) == NONE;
        }

        /** The first law that is broken, as 4 * lawPlace + kind. */
        int firstBroken(Rows walls) {
            for (int place = 0; place < named.length; place++) {
                int wall = place / WALL_COLUMNS;
                int column = place % WALL_COLUMNS;
                int kind = 0;
                if (walls.outside(wall, column, from[place], to[place]) > 0) {
                    kind = SPAN_LAW;
                } else if (named[place] != NONE && !namesKeys(walls, wall, column, named[place])) {
                    kind = NAMES_LAW;
                } else if (single[place] && !isSingle(walls, wall, column)) {
                    kind = ONCE_LAW;
                }
                if (kind != 0) {
                    return 4 * place + kind;
                }
            }
            return NONE;
        }

        /** Whether a lawful state stays so when a cell (not of a key) holds this value: others can't break by it. */
        boolean allow(Rows walls, int wall, int key, int column, int value) {
            int place = lawPlace(wall, column);
            if (value < from[place] || value > to[place]) {
                return false;
            }
            if (named[place] != NONE && !walls.has(named[place], value)) {
                return false;
            }
            return !single[place] || !isElsewhere(walls, wall, key, column, value);
        }

        private static boolean isElsewhere(Rows walls, int wall, int key, int column, int value) {
            for (int other = 0; other < VALUES; other++) {
                int at = cellPlace(wall, other);
                if (other != key && walls.cell[at] != NONE && walls.cell[at + column] == value) {
                    return true;
                }
            }
            return false;
        }

        private static boolean namesKeys(Rows walls, int wall, int column, int other) {
            for (int key = 0; key < VALUES; key++) {
                int at = cellPlace(wall, key);
                if (walls.cell[at] != NONE && !walls.has(other, walls.cell[at + column])) {
                    return false;
                }
            }
            return true;
        }

        private static boolean isSingle(Rows walls, int wall, int column) {
            int met = 0;
            for (int key = 0; key < VALUES; key++) {
                int at = cellPlace(wall, key);
                if (walls.cell[at] != NONE) {
                    int bit = 1 << walls.cell[at + column];
                    if ((met & bit) != 0) {
                        return false;
                    }
                    met |= bit;
                }
            }
            return true;
        }
    }

    /**
     * A window as it is told: its own panes, and what is known of the whole (with the windows under
     * it, which can't change while it is over them).
     */
    private static final class Lens {
        /** Marks an origin that is reached by a join: it is not the base's own, even on the base's wall. */
        static final int JOINED = 16;

        boolean told;
        int under;
        int base;
        int baseColumns;
        int columns;
        int panes;
        int wallBits;
        boolean summed;
        /** Columns of walls, as bits by lawPlace, on which panes depend. */
        int used;
        int steps;
        final int[] kind = new int[MOST_PANES];
        final int[] first = new int[MOST_PANES];
        final int[] second = new int[MOST_PANES];
        final int[] third = new int[MOST_PANES];
        final int[] pick = new int[MOST_PANES * WINDOW_COLUMNS];
        /** Of each column the lawPlace it shows (with JOINED), NONE behind a sum. */
        final int[] origin = new int[WINDOW_COLUMNS];
        final int[] fill = new int[WALL_COLUMNS];
        private final int[] oldOrigin = new int[WINDOW_COLUMNS];

        void startOnWall(int wall, int width) {
            under = NONE;
            base = wall;
            baseColumns = width;
            columns = width;
            panes = 0;
            wallBits = 1 << wall;
            summed = false;
            used = 0;
            steps = 0;
            for (int column = 0; column < WALL_COLUMNS; column++) {
                fill[column] = 0;
                origin[column] = lawPlace(wall, column);
            }
        }

        void startOnWindow(int window, Lens lower) {
            under = window;
            base = lower.base;
            baseColumns = lower.baseColumns;
            columns = lower.columns;
            panes = lower.panes;
            wallBits = lower.wallBits;
            summed = lower.summed;
            used = lower.used;
            steps = 0;
            System.arraycopy(lower.fill, 0, fill, 0, WALL_COLUMNS);
            System.arraycopy(lower.origin, 0, origin, 0, WINDOW_COLUMNS);
        }

        void addCut(int cut, int column, int bound) {
            use(column);
            addStep(cut, column, bound, 0);
        }

        void addPick(int nth, int column) {
            pick[steps * WINDOW_COLUMNS + nth] = column;
        }

        boolean isPicked(int column, int picks) {
            for (int nth = 0; nth < picks; nth++) {
                if (pick[steps * WINDOW_COLUMNS + nth] == column) {
                    return true;
                }
            }
            return false;
        }

        void addFew(int picks) {
            System.arraycopy(origin, 0, oldOrigin, 0, WINDOW_COLUMNS);
            for (int nth = 0; nth < picks; nth++) {
                origin[nth] = oldOrigin[pick[steps * WINDOW_COLUMNS + nth]];
            }
            columns = picks;
            addStep(FEW, 0, 0, picks);
        }

        void addJoin(int wall, int width, int by) {
            use(by);
            for (int column = 1; column < width; column++) {
                origin[columns + column - 1] = JOINED + lawPlace(wall, column);
            }
            columns += width - 1;
            wallBits |= 1 << wall;
            addStep(JOIN, by, wall, width);
        }

        void addSum(int what, int by) {
            use(what);
            use(by);
            origin[0] = NONE;
            origin[1] = NONE;
            columns = 2;
            summed = true;
            addStep(SUM, what, by, 0);
        }

        private void use(int column) {
            if (origin[column] != NONE) {
                used |= 1 << origin[column] % JOINED;
            }
        }

        private void addStep(int pane, int a, int b, int c) {
            kind[steps] = pane;
            first[steps] = a;
            second[steps] = b;
            third[steps] = c;
            steps++;
            panes++;
        }

        /** The first column that shows a column of the base's own row, NONE if none does. */
        int columnShowing(int baseColumn) {
            for (int column = 0; column < columns; column++) {
                if (origin[column] == lawPlace(base, baseColumn)) {
                    return column;
                }
            }
            return NONE;
        }

        /** Columns of walls on which what is seen depends: another value elsewhere is never seen. */
        int liveColumns() {
            int live = used;
            for (int column = 0; column < columns; column++) {
                if (origin[column] != NONE) {
                    live |= 1 << origin[column] % JOINED;
                }
            }
            return live;
        }
    }

    /** The tape, and how it is read as a window. */
    private static final class Reader {
        private static final int END = 0;
        private static final int WORD = 1;
        private static final int NUMBER = 2;
        private static final int SEMICOLON = 3;
        private static final int OTHER = 4;

        private static final int MISPLACED = 1;
        private static final int UNTOLD = 2;
        private static final int REPEATED = 3;
        private static final int OUT_OF_RANGE = 4;
        private static final int TOO_MANY = 5;

        private final Laws laws;
        private final Lens[] lenses;
        private Lens spare = new Lens();
        private final byte[] sign = new byte[TAPE_SIGNS];
        int length;
        private int at;
        private int token;
        private int start;
        private int number;
        private int fault;

        Reader(Laws laws, Lens[] lenses) {
            this.laws = laws;
            this.lenses = lenses;
        }

        void take(long bytes) {
            for (int shift = 56; shift >= 0; shift -= 8) {
                int next = (int) (bytes >> shift) & 255;
                if ((next == 10 || next >= 32 && next <= 126) && length < TAPE_SIGNS) {
                    sign[length++] = (byte) next;
                }
            }
        }

        /** Reads into a spare lens, so that a fault leaves the window as it was. */
        int read(int window) {
            at = 0;
            fault = 0;
            nextToken();
            readOver(window);
            for (int panes = 0; panes <= TAPE_SIGNS && fault == 0 && token != END; panes++) {
                readPane();
            }
            length = 0;
            if (fault == 0) {
                Lens old = lenses[window];
                spare.told = true;
                lenses[window] = spare;
                spare = old;
            }
            return fault;
        }

        private void readOver(int window) {
            if (!takeWord("over")) {
                return;
            }
            if (isWord("wall")) {
                nextToken();
                int wall = wallNumber();
                if (wall != NONE) {
                    spare.startOnWall(wall, laws.columns[wall]);
                    endPart();
                }
            } else if (isWord("window")) {
                nextToken();
                int lower = numberBelow(window);
                if (lower != NONE && !lenses[lower].told) {
                    fail(UNTOLD);
                } else if (lower != NONE) {
                    spare.startOnWindow(lower, lenses[lower]);
                    endPart();
                }
            } else {
                fail(MISPLACED);
            }
        }

        private void readPane() {
            boolean fill = isWord("fill");
            boolean cut = isWord("cut");
            boolean few = isWord("few");
            boolean join = isWord("join");
            boolean sum = isWord("sum");
            if (!fill && !cut && !few && !join && !sum) {
                fail(MISPLACED);
                return;
            }
            if (!fill && spare.steps >= MOST_PANES) {
                fail(TOO_MANY);
                return;
            }
            nextToken();
            if (fill) {
                readFill();
            } else if (cut) {
                readCut();
            } else if (few) {
                readFew();
            } else if (join) {
                readJoin();
            } else {
                readSum();
            }
        }

        private void readFill() {
            int column = takeNumber(spare.baseColumns);
            int n = takeNumber(VALUES);
            if (fault == 0 && endsHere()) {
                spare.fill[column] = n;
            }
        }

        private void readCut() {
            int column = takeNumber(spare.columns);
            int cut = isWord("less") ? CUT_LESS : isWord("is") ? CUT_IS : isWord("more") ? CUT_MORE : NONE;
            if (cut == NONE) {
                fail(MISPLACED);
            } else {
                nextToken();
            }
            int bound = takeNumber(BOUNDS);
            if (fault == 0 && endsHere()) {
                spare.addCut(cut, column, bound);
            }
        }

        private void readFew() {
            int picks = 0;
            do {
                int column = numberBelow(spare.columns);
                if (column == NONE) {
                    return;
                }
                if (spare.isPicked(column, picks)) {
                    fail(REPEATED);
                    return;
                }
                spare.addPick(picks++, column);
                nextToken();
            } while (token != SEMICOLON && picks <= WINDOW_COLUMNS);
            nextToken();
            spare.addFew(picks);
        }

        private void readJoin() {
            int wall = wallNumber();
            if (wall == NONE) {
                return;
            }
            int width = laws.columns[wall];
            if (spare.columns + width - 1 > WINDOW_COLUMNS) {
                fail(TOO_MANY);
                return;
            }
            nextToken();
            if (!takeWord("by")) {
                return;
            }
            int by = takeNumber(spare.columns);
            if (fault == 0 && endsHere()) {
                spare.addJoin(wall, width, by);
            }
        }

        private void readSum() {
            int what = takeNumber(spare.columns);
            if (fault != 0 || !takeWord("by")) {
                return;
            }
            int by = numberBelow(spare.columns);
            if (by != NONE && by == what) {
                fail(REPEATED);
            } else if (by != NONE) {
                nextToken();
                if (endsHere()) {
                    spare.addSum(what, by);
                }
            }
        }

        /** The token as the number of a wall that is told; the token stays, for faults to point at it. */
        private int wallNumber() {
            int wall = numberBelow(WALLS);
            if (wall != NONE && !laws.told(wall)) {
                fail(UNTOLD);
                return NONE;
            }
            return wall;
        }

        private int numberBelow(int limit) {
            if (token != NUMBER) {
                fail(MISPLACED);
                return NONE;
            }
            if (number >= limit) {
                fail(OUT_OF_RANGE);
                return NONE;
            }
            return fault == 0 ? number : NONE;
        }

        private int takeNumber(int limit) {
            int n = numberBelow(limit);
            if (n != NONE) {
                nextToken();
            }
            return n;
        }

        private void endPart() {
            nextToken();
            endsHere();
        }

        private boolean endsHere() {
            if (token != SEMICOLON) {
                fail(MISPLACED);
                return false;
            }
            nextToken();
            return true;
        }

        private boolean takeWord(String word) {
            if (!isWord(word)) {
                fail(MISPLACED);
                return false;
            }
            nextToken();
            return true;
        }

        private boolean isWord(String word) {
            if (token != WORD || at - start != word.length()) {
                return false;
            }
            for (int n = 0; n < word.length(); n++) {
                if (sign[start + n] != word.charAt(n)) {
                    return false;
                }
            }
            return true;
        }

        /** Only the first fault counts: what is read behind it means nothing. */
        private void fail(int kind) {
            if (fault == 0) {
                fault = kind + 16 * start;
            }
        }

        private void nextToken() {
            while (at < length && (sign[at] == 10 || sign[at] == 32)) {
                at++;
            }
            start = at;
            token = at < length ? kindOf(sign[at]) : END;
            if (token == END) {
                return;
            }
            number = 0;
            int most = token == WORD ? 8 : token == NUMBER ? 3 : 1;
            int end = start + 1;
            while (end < length && most > 1 && kindOf(sign[end]) == token) {
                end++;
            }
            for (at = start; at < end; at++) {
                if (token == NUMBER && at - start < most) {
                    number = 10 * number + sign[at] - '0';
                }
            }
            if (end - start > most) {
                token = OTHER;
            }
        }

        private static int kindOf(int sign) {
            if (sign >= 'a' && sign <= 'z') {
                return WORD;
            }
            if (sign >= '0' && sign <= '9') {
                return NUMBER;
            }
            return sign == ';' ? SEMICOLON : OTHER;
        }
    }

    /** Rows as they are seen, each with its values, the cells they come from, and what sorts alike rows. */
    private static final class View {
        static final int SOURCES = WINDOW_COLUMNS;
        static final int TAG = 2 * WINDOW_COLUMNS;
        static final int STRIDE = TAG + 1;
        /** A wanted row may come on top of ten that are seen. */
        static final int MOST_ROWS = WALL_ROWS + 1;
        /** A row behind all others, to hold one while others move. */
        static final int HELD = MOST_ROWS;

        int rows;
        int columns;
        final int[] grid = new int[(MOST_ROWS + 1) * STRIDE];
        private final int[] chain = new int[WINDOWS];
        /** Of each row of the base, by keys, the rows that were read for it, as bits; it ends at a sum. */
        final long[] touched = new long[VALUES];

        boolean has(int row, int column) {
            return row >= 0 && row < rows && column >= 0 && column < columns;
        }

        int valueAt(int row, int column) {
            return grid[row * STRIDE + column];
        }

        int sourceAt(int row, int column) {
            return grid[row * STRIDE + SOURCES + column];
        }

        int tagOf(int row) {
            return grid[row * STRIDE + TAG];
        }

        View show(Lens[] lenses, int window, Rows walls) {
            int depth = 0;
            for (int w = window; w != NONE && depth < WINDOWS; w = lenses[w].under) {
                chain[depth++] = w;
            }
            load(walls, lenses[window].base, lenses[window].baseColumns, NONE);
            for (int level = depth - 1; level >= 0; level--) {
                Lens lens = lenses[chain[level]];
                for (int step = 0; step < lens.steps; step++) {
                    switch (lens.kind[step]) {
                        case FEW: few(lens.pick, step * WINDOW_COLUMNS, lens.third[step]); break;
                        case JOIN: join(walls, lens.second[step], lens.third[step], lens.first[step]); break;
                        case SUM: sum(lens.first[step], lens.second[step]); break;
                        default: cut(lens.kind[step], lens.first[step], lens.second[step]); break;
                    }
                }
                sort();
            }
            return this;
        }

        /** The rows of a wall whose keys are in a set of bits (NONE has all bits). */
        void load(Rows walls, int wall, int width, int keys) {
            rows = 0;
            columns = width;
            for (int key = 0; key < VALUES && rows < WALL_ROWS; key++) {
                int from = cellPlace(wall, key);
                if (walls.cell[from] != NONE && hasBit(keys, key)) {
                    copyCells(walls, from, rows * STRIDE, width);
                    grid[rows * STRIDE + TAG] = key;
                    touched[key] = 1L << wall * VALUES + key;
                    rows++;
                }
            }
        }

        private void copyCells(Rows walls, int from, int to, int width) {
            for (int column = 0; column < width; column++) {
                grid[to + column] = walls.cell[from + column];
                grid[to + SOURCES + column] = from + column;
            }
        }

        private void move(int from, int to) {
            if (from != to) {
                System.arraycopy(grid, from * STRIDE, grid, to * STRIDE, STRIDE);
            }
        }

        private void cut(int kind, int column, int bound) {
            int kept = 0;
            for (int row = 0; row < rows; row++) {
                if (passes(kind, valueAt(row, column), bound)) {
                    move(row, kept++);
                }
            }
            rows = kept;
        }

        void few(int[] pick, int from, int width) {
            for (int row = 0; row < rows; row++) {
                move(row, HELD);
                for (int column = 0; column < width; column++) {
                    int old = HELD * STRIDE + pick[from + column];
                    grid[row * STRIDE + column] = grid[old];
                    grid[row * STRIDE + SOURCES + column] = grid[old + SOURCES];
                }
            }
            columns = width;
        }

        private void join(Rows walls, int wall, int width, int by) {
            int kept = 0;
            for (int row = 0; row < rows; row++) {
                int key = valueAt(row, by);
                if (walls.has(wall, key)) {
                    move(row, kept);
                    copyCells(walls, cellPlace(wall, key) + 1, kept * STRIDE + columns, width - 1);
                    touched[tagOf(kept)] |= 1L << wall * VALUES + key;
                    kept++;
                }
            }
            rows = kept;
            columns += width - 1;
        }

        /** Sums lie where rows lay that have been read: there are never more of them. */
        private void sum(int what, int by) {
            int sums = 0;
            for (int row = 0; row < rows; row++) {
                int value = valueAt(row, by);
                int part = valueAt(row, what);
                int at = 0;
                while (at < sums && valueAt(at, 0) != value) {
                    at++;
                }
                int to = at * STRIDE;
                if (at < sums) {
                    grid[to + 1] += part;
                } else {
                    grid[to] = value;
                    grid[to + 1] = part;
                    grid[to + SOURCES] = NONE;
                    grid[to + SOURCES + 1] = NONE;
                    grid[to + TAG] = sums++;
                }
            }
            rows = sums;
            columns = 2;
        }

        void sort() {
            for (int row = 1; row < rows; row++) {
                int to = row;
                for (; to > 0; to--) {
                    int order = compare(row, this, to - 1);
                    if (order > 0 || order == 0 && tagOf(row) >= tagOf(to - 1)) {
                        break;
                    }
                }
                if (to < row) {
                    move(row, HELD);
                    for (int back = row; back > to; back--) {
                        move(back - 1, back);
                    }
                    move(HELD, to);
                }
            }
        }

        int compare(int row, View view, int other) {
            for (int column = 0; column < columns; column++) {
                int difference = grid[row * STRIDE + column] - view.grid[other * STRIDE + column];
                if (difference != 0) {
                    return difference;
                }
            }
            return 0;
        }

        boolean same(View view) {
            if (rows != view.rows || columns != view.columns) {
                return false;
            }
            for (int row = 0; row < rows; row++) {
                if (compare(row, view, row) != 0) {
                    return false;
                }
            }
            return true;
        }

        /** How many rows of two sorted views of one window go in pairs of alike ones. */
        int countShared(View view) {
            int shared = 0;
            int other = 0;
            for (int row = 0; row < rows; row++) {
                while (other < view.rows && compare(row, view, other) > 0) {
                    other++;
                }
                if (other < view.rows && compare(row, view, other) == 0) {
                    shared++;
                    other++;
                }
            }
            return shared;
        }

        int rowOf(int tag) {
            for (int row = 0; row < rows; row++) {
                if (tagOf(row) == tag) {
                    return row;
                }
            }
            return NONE;
        }

        void copyFrom(View view) {
            rows = view.rows;
            columns = view.columns;
            System.arraycopy(view.grid, 0, grid, 0, grid.length);
        }

        void changeValue(int row, int column, int value) {
            grid[row * STRIDE + column] = value;
        }

        void dropRow(int row) {
            for (int next = row + 1; next < rows; next++) {
                move(next, next - 1);
            }
            rows--;
        }

        void addRow(int[] values) {
            System.arraycopy(values, 0, grid, rows * STRIDE, columns);
            rows++;
        }
    }

    /** A small change of the walls with its price; NONE stands where it has nothing. */
    private static final class Step {
        static final int NOTHING = 0;
        static final int ANOTHER_VALUE = 1;
        static final int ROW_GOES = 2;
        static final int ROW_COMES = 3;

        int price;
        int kind;
        int wall;
        int key;
        int column;
        int value;

        Step() {
            clear();
        }

        void clear() {
            price = NONE;
            kind = NONE;
            wall = NONE;
            key = NONE;
            column = NONE;
            value = NONE;
        }

        void copyFrom(Step other) {
            price = other.price;
            kind = other.kind;
            wall = other.wall;
            key = other.key;
            column = other.column;
            value = other.value;
        }
    }

    /** Where edits are weighed: what is seen, what is wanted, and the ways from one to the other. */
    private static final class Desk {
        private final Laws laws;
        private final Lens[] lenses;
        private final int[] draft;
        final Rows trial = new Rows();
        final View now = new View();
        private final View wanted = new View();
        final View shown = new View();
        private final int[] fresh = new int[WALL_COLUMNS];
        private final Step step = new Step();
        final Step least = new Step();
        final Step picked = new Step();
        int found;
        private int pickedPlace;
        private boolean leastAlone;
        private boolean asItIs;
        private int openEdit;
        private int openRow;

        Desk(Laws laws, Lens[] lenses, int[] draft) {
            this.laws = laws;
            this.lenses = lenses;
            this.draft = draft;
        }

        boolean isTold(int window) {
            return window >= 0 && window < WINDOWS && lenses[window].told;
        }

        boolean looks(Rows walls, int window) {
            if (!isTold(window)) {
                return false;
            }
            now.show(lenses, window, walls);
            return true;
        }

        /** False where the edit is none; else what is seen and what is wanted lie ready. */
        boolean opens(Rows walls, int window, int edit, int i, int j, int v) {
            if (edit < CHANGE || edit > ADD || !looks(walls, window)) {
                return false;
            }
            if (edit != ADD && (i < 0 || i >= now.rows)) {
                return false;
            }
            if (edit == CHANGE && (!now.has(i, j) || v < 0 || v >= BOUNDS)) {
                return false;
            }
            openEdit = edit;
            openRow = i;
            wanted.copyFrom(now);
            if (edit == CHANGE) {
                wanted.changeValue(i, j, v);
            } else if (edit == DROP) {
                wanted.dropRow(i);
            } else {
                wanted.addRow(draft);
            }
            wanted.sort();
            return true;
        }

        int putOn(Rows walls, int window, int edit, int i, int j, int v) {
            if (!opens(walls, window, edit, i, j, v)) {
                return NONE;
            }
            search(walls, window, NONE, true);
            if (least.kind == Step.ANOTHER_VALUE) {
                walls.cell[cellPlace(least.wall, least.key) + least.column] = least.value;
            } else if (least.kind == Step.ROW_GOES) {
                walls.drop(least.wall, least.key);
            } else if (least.kind == Step.ROW_COMES) {
                walls.add(least.wall, fresh);
            }
            return least.price;
        }

        /**
         * Goes through the ways of the edit that was opened, in their order: counts them, keeps the
         * first of the least price and the one at a place. For the least alone it stops where no
         * cheaper one can follow.
         */
        void search(Rows walls, int window, int place, boolean leastAlone) {
            this.leastAlone = leastAlone;
            found = 0;
            pickedPlace = place;
            least.clear();
            picked.clear();
            step.clear();
            asItIs = now.same(wanted);
            if (asItIs) {
                keep(Step.NOTHING, 0);
            }
            trial.copyFrom(walls);
            long telling = tellingRows(lenses[window]);
            tryOtherValues(window, telling);
            tryRowsThatGo(walls, window, telling);
            tryRowThatComes(window);
        }

        /**
         * Rows of walls, as bits, without which nothing comes near what is wanted. Without a sum a row
         * of the base is seen by itself, and only rows that are read for it change how: the row that is
         * to go or to be another must change, or to have one more, one that is not seen.
         */
        private long tellingRows(Lens lens) {
            if (lens.summed) {
                return NONE;
            }
            long telling = 0;
            for (int key = 0; key < VALUES; key++) {
                if (trial.has(lens.base, key)) {
                    int row = now.rowOf(key);
                    if (asItIs || (row == NONE ? openEdit == ADD
                            : openEdit != ADD && now.compare(row, now, openRow) == 0)) {
                        telling |= now.touched[key];
                    }
                }
            }
            return telling;
        }

        private boolean isEnough() {
            return leastAlone && least.price != NONE && least.price <= 1;
        }

        private void keep(int kind, int price) {
            step.kind = kind;
            step.price = price;
            if (least.price == NONE || price < least.price) {
                least.copyFrom(step);
            }
            if (found == pickedPlace) {
                picked.copyFrom(step);
            }
            found++;
        }

        /** Cells lie by walls, keys, columns: the order of the ways. */
        private void tryOtherValues(int window, long telling) {
            Lens lens = lenses[window];
            int live = lens.liveColumns();
            for (int cell = 0; cell < trial.cell.length && !isEnough(); cell++) {
                step.wall = cell / WALL_COLUMNS / VALUES;
                step.key = cell / WALL_COLUMNS % VALUES;
                step.column = cell % WALL_COLUMNS;
                boolean tells = hasBit(live, lawPlace(step.wall, step.column))
                        && hasBit(telling, step.wall * VALUES + step.key);
                if (!isChangeable(lens) || !tells && !asItIs) {
                    continue;
                }
                int old = trial.cell[cell];
                for (int value = 0; value < VALUES && !isEnough(); value++) {
                    if (value != old && laws.allow(trial, step.wall, step.key, step.column, value)) {
                        trial.cell[cell] = value;
                        if (!tells || shown.show(lenses, window, trial).same(wanted)) {
                            step.value = value;
                            keep(Step.ANOTHER_VALUE, 1);
                        }
                    }
                }
                trial.cell[cell] = old;
            }
        }

        private boolean isChangeable(Lens lens) {
            return step.column > 0 && step.column < laws.columns[step.wall] && hasBit(lens.wallBits, step.wall)
                    && trial.has(step.wall, step.key);
        }

        private void tryRowsThatGo(Rows walls, int window, long telling) {
            step.clear();
            for (int wall = 0; wall < WALLS; wall++) {
                boolean under = hasBit(lenses[window].wallBits, wall);
                for (int key = 0; key < VALUES && under && !isEnough(); key++) {
                    boolean tells = hasBit(telling, wall * VALUES + key);
                    if (!walls.has(wall, key) || !tells && !asItIs) {
                        continue;
                    }
                    trial.drop(wall, key);
                    if (laws.firstBroken(trial) == NONE
                            && (!tells || shown.show(lenses, window, trial).same(wanted))) {
                        step.wall = wall;
                        step.key = key;
                        keep(Step.ROW_GOES, laws.columns[wall]);
                    }
                    trial.copyFrom(walls);
                }
            }
        }

        private void tryRowThatComes(int window) {
            if (!isEnough() && rowComes(lenses[window]) && laws.firstBroken(trial) == NONE
                    && shown.show(lenses, window, trial).same(wanted)) {
                step.wall = lenses[window].base;
                step.key = fresh[0];
                keep(Step.ROW_COMES, laws.columns[step.wall]);
            }
        }

        /** Adds the row of the draft to the base in the trial; false: its key is there, or ten rows are. */
        private boolean rowComes(Lens lens) {
            for (int column = 0; column < WALL_COLUMNS; column++) {
                int showing = lens.columnShowing(column);
                fresh[column] = showing != NONE ? draft[showing] : lens.fill[column];
            }
            if (trial.size[lens.base] >= WALL_ROWS || trial.has(lens.base, fresh[0])) {
                return false;
            }
            trial.add(lens.base, fresh);
            return true;
        }

        /** Does in the trial what the edit that was opened says straight; false: it can't be done. */
        boolean goesStraight(Rows walls, int window, int edit, int i, int j, int v) {
            Lens lens = lenses[window];
            trial.copyFrom(walls);
            if (edit == ADD) {
                return rowComes(lens);
            }
            if (edit == DROP) {
                if (!lens.summed) {
                    trial.drop(lens.base, now.tagOf(i));
                }
                return !lens.summed;
            }
            int cell = now.sourceAt(i, j);
            if (cell == NONE || cell % WALL_COLUMNS == 0 || v >= VALUES) {
                return false;
            }
            trial.cell[cell] = v;
            return true;
        }

        /** What is wrong with the trial, as bits. */
        int faultsOfTrial(int window) {
            int bits = laws.hold(trial) ? 0 : 1;
            if (shown.show(lenses, window, trial).rows != wanted.rows) {
                return bits | 2;
            }
            return shown.same(wanted) ? bits : bits | 4;
        }
    }

    /** Cuts of walls. All bounds above the greatest value cut alike, so that one stands for all of them. */
    private static final class Cutter {
        private static final int COMMON_BOUND = VALUES;

        private final Laws laws;
        private final View view = new View();
        private final int[] pick = new int[WALL_COLUMNS];
        int total;
        int firstColumn;
        int firstKind;
        int firstBound;

        Cutter(Laws laws) {
            this.laws = laws;
        }

        private static int weightOf(int bound) {
            return bound < COMMON_BOUND ? 1 : BOUNDS - COMMON_BOUND;
        }

        void findCuts(Rows walls, int wall, int keys) {
            total = 0;
            firstColumn = NONE;
            firstKind = NONE;
            firstBound = NONE;
            for (int column = 0; column < laws.columns[wall]; column++) {
                for (int kind = CUT_LESS; kind <= CUT_MORE; kind++) {
                    for (int bound = 0; bound <= COMMON_BOUND; bound++) {
                        if (keysLeft(walls, wall, column, kind, bound) == keys) {
                            if (total == 0) {
                                firstColumn = column;
                                firstKind = kind;
                                firstBound = bound;
                            }
                            total += weightOf(bound);
                        }
                    }
                }
            }
        }

        private static int keysLeft(Rows walls, int wall, int column, int kind, int bound) {
            int keys = 0;
            for (int key = 0; key < VALUES; key++) {
                int at = cellPlace(wall, key);
                if (walls.cell[at] != NONE && passes(kind, walls.cell[at + column], bound)) {
                    keys |= 1 << key;
                }
            }
            return keys;
        }

        /** Cuts next to one another often leave the same rows: these are then not arranged again. */
        int countFits(Rows walls, int wall, View target) {
            int keys = walls.keysOf(wall, NONE);
            int arranged = countArranged(walls, wall, keys, target);
            int fits = arranged;
            for (int column = 0; column < laws.columns[wall]; column++) {
                for (int kind = CUT_LESS; kind <= CUT_MORE; kind++) {
                    for (int bound = 0; bound <= COMMON_BOUND; bound++) {
                        int left = keysLeft(walls, wall, column, kind, bound);
                        if (left != keys) {
                            keys = left;
                            arranged = countArranged(walls, wall, keys, target);
                        }
                        fits += arranged * weightOf(bound);
                    }
                }
            }
            return fits;
        }

        private int countArranged(Rows walls, int wall, int keys, View target) {
            int width = laws.columns[wall];
            if (target.columns > width || Integer.bitCount(keys) != target.rows) {
                return 0;
            }
            int arranged = 0;
            for (int code = 0; code < 1 << 2 * target.columns; code++) {
                if (picksColumns(code, target.columns, width)) {
                    view.load(walls, wall, width, keys);
                    view.few(pick, 0, target.columns);
                    view.sort();
                    if (view.same(target)) {
                        arranged++;
                    }
                }
            }
            return arranged;
        }

        /** Two bits of the code are a column; false: one is not there, or one comes twice. */
        private boolean picksColumns(int code, int picks, int width) {
            int met = 0;
            for (int nth = 0; nth < picks; nth++) {
                int column = code >> 2 * nth & 3;
                if (column >= width || (met >> column & 1) != 0) {
                    return false;
                }
                met |= 1 << column;
                pick[nth] = column;
            }
            return true;
        }
    }

    /** The changes of the clerks, and what came of them in the orders of a night. */
    private static final class Clerks {
        /** The first n! rows put the first n of three in every order. */
        private static final int[] ORDERS = {0, 1, 2, 1, 0, 2, 0, 2, 1, 1, 2, 0, 2, 0, 1, 2, 1, 0};
        private static final int MOST_ORDERS = 6;

        final int[] windows = new int[CLERKS];
        final int[] places = new int[CLERKS];
        final int[] values = new int[CLERKS];
        private final int[] busy = new int[CLERKS];
        int busyCount;
        private final Rows[] ends = new Rows[MOST_ORDERS];
        int endCount;
        int orders;
        int whole;
        int most;

        Clerks() {
            for (int clerk = 0; clerk < CLERKS; clerk++) {
                windows[clerk] = NONE;
            }
            for (int end = 0; end < MOST_ORDERS; end++) {
                ends[end] = new Rows();
            }
        }

        void beginNight() {
            busyCount = 0;
            for (int clerk = 0; clerk < CLERKS; clerk++) {
                if (windows[clerk] != NONE) {
                    busy[busyCount++] = clerk;
                }
            }
            orders = busyCount == 3 ? 6 : busyCount == 2 ? 2 : 1;
            endCount = 0;
            whole = 0;
            most = 0;
        }

        int clerkAt(int order, int turn) {
            return busy[ORDERS[order * CLERKS + turn]];
        }

        void endOrder(Rows end, int done) {
            most = Math.max(most, done);
            if (done < busyCount) {
                return;
            }
            whole++;
            for (int n = 0; n < endCount; n++) {
                if (ends[n].same(end)) {
                    return;
                }
            }
            ends[endCount++].copyFrom(end);
        }
    }
}
