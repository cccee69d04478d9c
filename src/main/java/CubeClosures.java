/** A cube of sums over a sparse table, of which only the closed cells with enough entries are kept. */
public final class CubeClosures {
    public static final int NONE = -1, UNKNOWN = -2, OUTSIDE = -3, NOT = -4, FULL = -5,
            NULL = -11, INDEX = -12, SIZE = -13, OVER = -14;

    private static final int MOST_DIMENSIONS = 4;
    private static final int MOST_VALUES = 6;
    private static final int MOST_SETS = 1 << MOST_DIMENSIONS;
    private static final int MOST_ENTRIES = 40;
    private static final int MOST_MEASURE = 99;
    private static final int MOST_SUPPORT = 9;
    /** An entry is in as many cells as there are sets of dimensions; no other cell has a cover. */
    private static final int MOST_CELLS = MOST_ENTRIES * MOST_SETS;
    private static final int MOST_CAP = 2400;
    private static final int MOST_LETTERS = 200;
    private static final int MOST_LETTER_NUMBER = 255;
    private static final int MOST_CLAUSES = 24;
    private static final int MOST_UNDONE = 8;
    private static final int KEEPS = 2;
    private static final int ROWS = 3;
    private static final int MOST_PLACES = 12;
    private static final int CODE_BASE = 7;
    private static final int MEASURE_SHIFT = 1000;
    private static final int SUM_SHIFT = 10000;

    private final Clauses clauses;
    private final Text text;
    private final Cells cells;
    private final Table table;
    private final Past past;
    private final Table[] keeps;
    private final boolean[] isKept;
    private final LongRows rows;
    private boolean cellsAreOld;
    private long told;

    public CubeClosures() {
        clauses = new Clauses();
        text = clauses.text;
        cells = new Cells();
        table = cells.table;
        past = new Past();
        keeps = new Table[KEEPS];
        for (int k = 0; k < KEEPS; k++) {
            keeps[k] = new Table();
        }
        isKept = new boolean[KEEPS];
        rows = new LongRows();
        cellsAreOld = false;
        told = 0;
    }

    // ---- what is told

    public int write(int letter) {
        if (letter < 0 || letter > MOST_LETTER_NUMBER) {
            return OUTSIDE;
        }
        return text.append((char) letter) ? text.length : FULL;
    }

    public int erase() {
        int had = text.length;
        text.length = 0;
        return had;
    }

    public int fault() {
        return clauses.draftUpon(table);
    }

    public int read() {
        if (clauses.draftUpon(table) != NONE) {
            return NOT;
        }
        table.copyFrom(clauses.draft);
        cellsAreOld = true;
        past.size = 0;
        for (int k = 0; k < KEEPS; k++) {
            isKept[k] = false;
        }
        text.length = 0;
        return clauses.done;
    }

    // ---- entries

    public int add(int code, int measure) {
        if (!table.isEntryCode(code) || measure < -MOST_MEASURE || measure > MOST_MEASURE) {
            return OUTSIDE;
        }
        if (table.size >= MOST_ENTRIES) {
            return FULL;
        }
        past.record(Past.ADDED, table.size, code, measure);
        table.insert(table.size, code, measure);
        cellsAreOld = true;
        return table.size;
    }

    public int remove(int entry) {
        if (!table.hasEntry(entry)) {
            return UNKNOWN;
        }
        past.record(Past.REMOVED, entry, table.codes[entry], table.measures[entry]);
        table.takeOut(entry);
        cellsAreOld = true;
        return table.size;
    }

    public int support(int s) {
        if (s < 1 || s > MOST_SUPPORT) {
            return OUTSIDE;
        }
        int was = table.enough;
        if (s == was) {
            return NOT;
        }
        past.record(Past.SUPPORTED, was, 0, 0);
        table.enough = s;
        return was;
    }

    public int undo() {
        if (past.size == 0) {
            return NOT;
        }
        past.undoLatest(table);
        cellsAreOld = true;
        return past.size;
    }

    public int keep(int k) {
        if (k < 0 || k >= KEEPS) {
            return UNKNOWN;
        }
        keeps[k].copyFrom(table);
        isKept[k] = true;
        return table.size;
    }

    public int back(int k) {
        if (k < 0 || k >= KEEPS) {
            return UNKNOWN;
        }
        if (!isKept[k]) {
            return NOT;
        }
        table.copyFrom(keeps[k]);
        cellsAreOld = true;
        past.size = 0;
        return table.size;
    }

    public int entry(int entry, int what) {
        if (!table.hasEntry(entry)) {
            return UNKNOWN;
        }
        switch (what) {
            case 0:
                return table.codes[entry];
            case 1:
                return table.measures[entry] + MEASURE_SHIFT;
            default:
                return OUTSIDE;
        }
    }

    // ---- cells

    public int cell(int code, int what) {
        if (!table.isCellCode(code) || what < 0 || what > 3) {
            return OUTSIDE;
        }
        long cover = freshCells().coverOf(code);
        if (what == 0) {
            return Long.bitCount(cover);
        }
        if (what == 1) {
            return table.sumOf(cover) + SUM_SHIFT;
        }
        if (cover == 0) {
            return NONE;
        }
        return (what == 2 ? table.leastOf(cover) : table.greatestOf(cover)) + SUM_SHIFT;
    }

    public int closure(int code) {
        if (!table.isCellCode(code)) {
            return OUTSIDE;
        }
        Cells fresh = freshCells();
        return fresh.closureOf(fresh.coverOf(code));
    }

    public int kept(int k) {
        return k < 0 ? OUTSIDE : freshCells().codeInCube(k);
    }

    public int ask(int code, int what) {
        if (!table.isCellCode(code) || what < 0 || what > 1) {
            return OUTSIDE;
        }
        // The closure has the same cover, so what it tells is told by this cover.
        long cover = freshCells().coverOf(code);
        int size = Long.bitCount(cover);
        if (size < table.enough) {
            return NONE;
        }
        return what == 0 ? size : table.sumOf(cover) + SUM_SHIFT;
    }

    // ---- parting

    public int part(int order, int what) {
        if (!Parting.isOrder(order, table.dimensions) || what < 0 || what > 1) {
            return OUTSIDE;
        }
        Parting parting = freshCells().parted();
        return what == 0 ? parting.workBy(order) : parting.visits;
    }

    public int best(int what) {
        if (what < 0 || what > 1) {
            return OUTSIDE;
        }
        Parting parting = freshCells().parted();
        int order = parting.bestOrder();
        return what == 0 ? order : parting.workBy(order);
    }

    // ---- foretold

    public int more(int code, int what) {
        if (!table.isEntryCode(code) || what < 0 || what > 1) {
            return OUTSIDE;
        }
        if (table.size >= MOST_ENTRIES) {
            return FULL;
        }
        Cells fresh = freshCells();
        int gained = fresh.gainedWith(code);
        return what == 0 ? fresh.cubeSize(table.enough) + gained : gained;
    }

    public int less(int entry, int what) {
        if (!table.hasEntry(entry)) {
            return UNKNOWN;
        }
        if (what < 0 || what > 1) {
            return OUTSIDE;
        }
        Cells fresh = freshCells();
        int lost = fresh.lostWithout(entry);
        return what == 0 ? fresh.cubeSize(table.enough) - lost : lost;
    }

    public int cap(int k) {
        return k < 0 || k > MOST_CAP ? OUTSIDE : freshCells().leastSupportFor(k);
    }

    public int key() {
        return freshCells().leastKey();
    }

    public int rule(int set, int dimension) {
        if (set < 0 || set >= 1 << table.dimensions || dimension < 0 || dimension >= table.dimensions) {
            return OUTSIDE;
        }
        return freshCells().settles(set, dimension) ? 1 : 0;
    }

    // ---- rows

    public int row(int row, int n) {
        if (!LongRows.isRow(row)) {
            return UNKNOWN;
        }
        if (n > MOST_PLACES) {
            return OUTSIDE;
        }
        if (n < 0) {
            return SIZE;
        }
        rows.renew(row, n);
        return n;
    }

    public int set(int row, int i, int v) {
        if (!LongRows.isRow(row)) {
            return UNKNOWN;
        }
        return rows.put(row, i, v);
    }

    public int work(int row, int i, int way, int v) {
        if (!LongRows.isRow(row)) {
            return UNKNOWN;
        }
        if (way < 0 || way > 2) {
            return OUTSIDE;
        }
        int found = rows.finds(row, i);
        if (found < 0) {
            return found;
        }
        long old = rows.places[row][i];
        if (Exact.isOver(old, way, v)) {
            return OVER;
        }
        told = Exact.result(old, way, v);
        rows.places[row][i] = told;
        return 1;
    }

    public int bits(int row, int i) {
        if (!LongRows.isRow(row)) {
            return UNKNOWN;
        }
        int found = rows.finds(row, i);
        if (found < 0) {
            return found;
        }
        told = Long.bitCount(rows.places[row][i]);
        return 1;
    }

    public int sum(int row) {
        if (!LongRows.isRow(row)) {
            return UNKNOWN;
        }
        if (rows.isMissing(row)) {
            return NULL;
        }
        long all = 0;
        for (int i = 0; i < rows.lengths[row]; i++) {
            long next = rows.places[row][i];
            if (Exact.isOver(all, Exact.PLUS, next)) {
                return OVER;
            }
            all += next;
        }
        told = all;
        return rows.lengths[row];
    }

    public int load(int row, int i, int code) {
        if (!LongRows.isRow(row)) {
            return UNKNOWN;
        }
        if (!table.isCellCode(code)) {
            return OUTSIDE;
        }
        return rows.put(row, i, table.sumOf(freshCells().coverOf(code)));
    }

    public int drop(int row) {
        if (!LongRows.isRow(row)) {
            return UNKNOWN;
        }
        if (rows.isMissing(row)) {
            return NULL;
        }
        int had = rows.lengths[row];
        rows.lengths[row] = LongRows.MISSING;
        return had;
    }

    public long asked() {
        return told;
    }

    public int count(int what) {
        switch (what) {
            case 0:
                return table.dimensions;
            case 1:
                return table.size;
            case 2:
                return table.enough;
            case 3:
                return freshCells().cubeSize(table.enough);
            case 4:
                return freshCells().cellsWith(table.enough);
            case 5:
                return table.valueFigures();
            case 6:
                return rows.placesInAll();
            case 7:
                return past.size;
            case 8:
                return text.length;
            default:
                return OUTSIDE;
        }
    }

    /** The cells are listed again only when one asks for them after the entries have changed. */
    private Cells freshCells() {
        if (cellsAreOld) {
            cells.list();
            cellsAreOld = false;
        }
        return cells;
    }

    /** Dimensions, entries and support. */
    private static final class Table {
        private static final int FIRST_DIMENSIONS = 2;
        private static final int FIRST_VALUES = 4;

        int dimensions;
        final int[] values = new int[MOST_DIMENSIONS];
        int size;
        final int[] codes = new int[MOST_ENTRIES];
        final int[] measures = new int[MOST_ENTRIES];
        int enough;

        Table() {
            dimensions = FIRST_DIMENSIONS;
            for (int dimension = 0; dimension < MOST_DIMENSIONS; dimension++) {
                values[dimension] = FIRST_VALUES;
            }
            size = 0;
            enough = 1;
        }

        /** Dimensions with so many values each, and all else as at first. */
        void startWith(int newDimensions, int[] newValues) {
            dimensions = newDimensions;
            System.arraycopy(newValues, 0, values, 0, MOST_DIMENSIONS);
            size = 0;
            enough = 1;
        }

        void copyFrom(Table other) {
            dimensions = other.dimensions;
            System.arraycopy(other.values, 0, values, 0, MOST_DIMENSIONS);
            size = other.size;
            System.arraycopy(other.codes, 0, codes, 0, MOST_ENTRIES);
            System.arraycopy(other.measures, 0, measures, 0, MOST_ENTRIES);
            enough = other.enough;
        }

        boolean hasEntry(int entry) {
            return entry >= 0 && entry < size;
        }

        void insert(int at, int code, int measure) {
            if (at < 0 || at > size || size >= MOST_ENTRIES) {
                return;
            }
            System.arraycopy(codes, at, codes, at + 1, size - at);
            System.arraycopy(measures, at, measures, at + 1, size - at);
            codes[at] = code;
            measures[at] = measure;
            size++;
        }

        void takeOut(int at) {
            if (!hasEntry(at)) {
                return;
            }
            System.arraycopy(codes, at + 1, codes, at, size - at - 1);
            System.arraycopy(measures, at + 1, measures, at, size - at - 1);
            size--;
        }

        boolean isCellCode(int code) {
            return hasFigures(code, 0);
        }

        boolean isEntryCode(int code) {
            return hasFigures(code, 1);
        }

        private boolean hasFigures(int code, int least) {
            int rest = code;
            for (int dimension = dimensions - 1; dimension >= 0; dimension--) {
                int figure = rest % CODE_BASE;
                if (figure < least || figure > values[dimension]) {
                    return false;
                }
                rest /= CODE_BASE;
            }
            return rest == 0;
        }

        int valueFigures() {
            int number = 0;
            for (int dimension = 0; dimension < dimensions; dimension++) {
                number = number * 10 + values[dimension];
            }
            return number;
        }

        int sumOf(long cover) {
            int sum = 0;
            for (int entry = 0; entry < size; entry++) {
                if (isIn(entry, cover)) {
                    sum += measures[entry];
                }
            }
            return sum;
        }

        int leastOf(long cover) {
            int least = MOST_MEASURE;
            for (int entry = 0; entry < size; entry++) {
                if (isIn(entry, cover)) {
                    least = Math.min(least, measures[entry]);
                }
            }
            return least;
        }

        int greatestOf(long cover) {
            int greatest = -MOST_MEASURE;
            for (int entry = 0; entry < size; entry++) {
                if (isIn(entry, cover)) {
                    greatest = Math.max(greatest, measures[entry]);
                }
            }
            return greatest;
        }

        private static boolean isIn(int entry, long cover) {
            return (cover >>> entry & 1L) != 0;
        }
    }

    /** The cells that have entries, by codes, rising; a cover is a set of entries, a bit for each. */
    private static final class Cells {
        final Table table = new Table();
        private final Parting parting = new Parting();
        /** Which entries have a value, for each value of each dimension. */
        private final long[] having = new long[MOST_DIMENSIONS * MOST_VALUES];
        private int size;
        private int[] codes = new int[MOST_CELLS];
        private long[] covers = new long[MOST_CELLS];
        private int[] otherCodes = new int[MOST_CELLS];
        private long[] otherCovers = new long[MOST_CELLS];
        private final boolean[] isClosed = new boolean[MOST_CELLS];
        /** How many cells have so many entries, all of them and the closed ones. */
        private final int[] allOfSize = new int[MOST_ENTRIES + 1];
        private final int[] closedOfSize = new int[MOST_ENTRIES + 1];
        /** How many cells have their values in just these dimensions. */
        private final int[] cellsOn = new int[MOST_SETS];

        void list() {
            findHaving();
            size = 0;
            if (table.size > 0) {
                codes[0] = 0;
                covers[0] = (1L << table.size) - 1;
                size = 1;
            }
            for (int dimension = 0; dimension < table.dimensions; dimension++) {
                spreadBy(dimension);
            }
            tally();
        }

        private void findHaving() {
            for (int i = 0; i < MOST_DIMENSIONS * MOST_VALUES; i++) {
                having[i] = 0;
            }
            for (int entry = 0; entry < table.size; entry++) {
                int rest = table.codes[entry];
                for (int dimension = table.dimensions - 1; dimension >= 0; dimension--) {
                    int figure = rest % CODE_BASE;
                    if (figure > 0) {
                        having[dimension * MOST_VALUES + figure - 1] |= 1L << entry;
                    }
                    rest /= CODE_BASE;
                }
            }
        }

        /** Each cell gives one for all and one for each value, in its own place: codes go on rising. */
        private void spreadBy(int dimension) {
            int spread = 0;
            for (int i = 0; i < size; i++) {
                for (int figure = 0; figure <= table.values[dimension]; figure++) {
                    long cover = figure == 0 ? covers[i] : covers[i] & havingFigure(dimension, figure);
                    if (cover != 0 && spread < MOST_CELLS) {
                        otherCodes[spread] = codes[i] * CODE_BASE + figure;
                        otherCovers[spread] = cover;
                        spread++;
                    }
                }
            }
            int[] oldCodes = codes;
            codes = otherCodes;
            otherCodes = oldCodes;
            long[] oldCovers = covers;
            covers = otherCovers;
            otherCovers = oldCovers;
            size = spread;
        }

        private void tally() {
            for (int many = 0; many <= MOST_ENTRIES; many++) {
                allOfSize[many] = 0;
                closedOfSize[many] = 0;
            }
            for (int set = 0; set < MOST_SETS; set++) {
                cellsOn[set] = 0;
            }
            for (int i = 0; i < size; i++) {
                int many = Math.min(Long.bitCount(covers[i]), MOST_ENTRIES);
                isClosed[i] = closureOf(covers[i]) == codes[i];
                allOfSize[many]++;
                if (isClosed[i]) {
                    closedOfSize[many]++;
                }
                cellsOn[dimensionsOf(codes[i])]++;
            }
        }

        private long havingFigure(int dimension, int figure) {
            int at = dimension * MOST_VALUES + figure - 1;
            return at >= 0 && at < having.length ? having[at] : 0;
        }

        long coverOf(int code) {
            long cover = (1L << table.size) - 1;
            int rest = code;
            for (int dimension = table.dimensions - 1; dimension >= 0; dimension--) {
                int figure = rest % CODE_BASE;
                if (figure > 0) {
                    cover &= havingFigure(dimension, figure);
                }
                rest /= CODE_BASE;
            }
            return cover;
        }

        int closureOf(long cover) {
            if (cover == 0) {
                return NONE;
            }
            int first = Long.bitCount((cover & -cover) - 1);
            return table.hasEntry(first) ? sharedWith(table.codes[first], cover) : NONE;
        }

        /** A code's figures where all of the cover have them too, all elsewhere. */
        private int sharedWith(int code, long cover) {
            int shared = 0;
            int weight = 1;
            int rest = code;
            for (int dimension = table.dimensions - 1; dimension >= 0; dimension--) {
                int figure = rest % CODE_BASE;
                if (figure > 0 && (cover & ~havingFigure(dimension, figure)) == 0) {
                    shared += figure * weight;
                }
                weight *= CODE_BASE;
                rest /= CODE_BASE;
            }
            return shared;
        }

        private int dimensionsOf(int code) {
            int set = 0;
            int rest = code;
            for (int dimension = table.dimensions - 1; dimension >= 0; dimension--) {
                if (rest % CODE_BASE > 0) {
                    set |= 1 << dimension;
                }
                rest /= CODE_BASE;
            }
            return set;
        }

        /** A code's figures in the set, all elsewhere. */
        private int within(int code, int set) {
            int kept = 0;
            int weight = 1;
            int rest = code;
            for (int dimension = table.dimensions - 1; dimension >= 0; dimension--) {
                if ((set >> dimension & 1) != 0) {
                    kept += rest % CODE_BASE * weight;
                }
                weight *= CODE_BASE;
                rest /= CODE_BASE;
            }
            return kept;
        }

        int codeInCube(int k) {
            int before = 0;
            for (int i = 0; i < size; i++) {
                if (isClosed[i] && Long.bitCount(covers[i]) >= table.enough) {
                    if (before == k) {
                        return codes[i];
                    }
                    before++;
                }
            }
            return NONE;
        }

        int cubeSize(int support) {
            return ofSizeOrMore(closedOfSize, support);
        }

        int cellsWith(int support) {
            return ofSizeOrMore(allOfSize, support);
        }

        private static int ofSizeOrMore(int[] ofSize, int least) {
            int number = 0;
            for (int many = Math.max(least, 0); many <= MOST_ENTRIES; many++) {
                number += ofSize[many];
            }
            return number;
        }

        int leastSupportFor(int most) {
            for (int support = 1; support <= MOST_ENTRIES; support++) {
                if (cubeSize(support) <= most) {
                    return support;
                }
            }
            return MOST_ENTRIES + 1;
        }

        private boolean isInCube(int code, long cover) {
            return Long.bitCount(cover) >= table.enough && closureOf(cover) == code;
        }

        /** One entry more changes only the cells that it is in, and no cell leaves the cube by it. */
        int gainedWith(int code) {
            int gained = 0;
            for (int set = 0; set < 1 << table.dimensions; set++) {
                int cell = within(code, set);
                long cover = coverOf(cell);
                boolean then = Long.bitCount(cover) + 1 >= table.enough && sharedWith(code, cover) == cell;
                if (then && !isInCube(cell, cover)) {
                    gained++;
                }
            }
            return gained;
        }

        /** One entry less changes only the cells that it is in, and no cell comes into the cube by it. */
        int lostWithout(int entry) {
            if (!table.hasEntry(entry)) {
                return 0;
            }
            int lost = 0;
            for (int set = 0; set < 1 << table.dimensions; set++) {
                int cell = within(table.codes[entry], set);
                long cover = coverOf(cell);
                if (isInCube(cell, cover) && !isInCube(cell, cover & ~(1L << entry))) {
                    lost++;
                }
            }
            return lost;
        }

        /** Entries are told apart by a set when each is alone in a cell on it. */
        int leastKey() {
            int least = NONE;
            for (int set = 0; set < 1 << table.dimensions; set++) {
                boolean isFewer = least == NONE || Integer.bitCount(set) < Integer.bitCount(least);
                if (isFewer && cellsOn[set] == table.size) {
                    least = set;
                }
            }
            return least;
        }

        /** A set settles a dimension when no cell on the set falls into several by that dimension. */
        boolean settles(int set, int dimension) {
            int both = set | 1 << dimension;
            return set >= 0 && both >= 0 && both < MOST_SETS && cellsOn[set] == cellsOn[both];
        }

        Parting parted() {
            parting.startWith(table.dimensions, table.size);
            for (int i = 0; i < size; i++) {
                int many = Long.bitCount(covers[i]);
                if (codes[i] != 0 && many >= table.enough) {
                    parting.goInto(dimensionsOf(codes[i]), many);
                }
            }
            return parting;
        }
    }

    /**
     * Parting goes into each cell with enough entries just once, whatever the order: the cells on the
     * way to it have as many or more. The order only says at which places its entries are work again.
     */
    private static final class Parting {
        private static final int[] ORDERS_OF_1 = {0};
        private static final int[] ORDERS_OF_2 = {1, 10};
        private static final int[] ORDERS_OF_3 = {12, 21, 102, 120, 201, 210};
        private static final int[] ORDERS_OF_4 = {
            123, 132, 213, 231, 312, 321, 1023, 1032, 1203, 1230, 1302, 1320,
            2013, 2031, 2103, 2130, 2301, 2310, 3012, 3021, 3102, 3120, 3201, 3210};

        private int dimensions;
        int visits;
        /** How many entries are gone on with, in all, in cells with values in just these dimensions. */
        private final int[] entriesOn = new int[MOST_SETS];

        static boolean isOrder(int number, int dimensions) {
            int seen = 0;
            int rest = number;
            for (int place = 0; place < dimensions; place++) {
                int figure = rest % 10;
                if (figure < 0 || figure >= dimensions || (seen >> figure & 1) != 0) {
                    return false;
                }
                seen |= 1 << figure;
                rest /= 10;
            }
            return rest == 0;
        }

        void startWith(int newDimensions, int entries) {
            dimensions = newDimensions;
            visits = 0;
            for (int set = 0; set < MOST_SETS; set++) {
                entriesOn[set] = 0;
            }
            entriesOn[0] = entries;
        }

        void goInto(int set, int entries) {
            if (set >= 0 && set < MOST_SETS) {
                entriesOn[set] += entries;
                visits++;
            }
        }

        /** At each place, what was gone on with by the dimensions before it is work. */
        int workBy(int order) {
            int all = 0;
            int before = (1 << dimensions) - 1;
            int rest = order;
            for (int place = dimensions - 1; place >= 0; place--) {
                before &= ~(1 << rest % 10);
                rest /= 10;
                for (int set = 0; set < MOST_SETS; set++) {
                    if ((set & ~before) == 0) {
                        all += entriesOn[set];
                    }
                }
            }
            return all;
        }

        int bestOrder() {
            int[] orders = ordersOf(dimensions);
            int best = NONE;
            int leastWork = 0;
            for (int i = 0; i < orders.length; i++) {
                int needed = workBy(orders[i]);
                if (best == NONE || needed < leastWork) {
                    leastWork = needed;
                    best = orders[i];
                }
            }
            return best;
        }

        private static int[] ordersOf(int dimensions) {
            switch (dimensions) {
                case 1:
                    return ORDERS_OF_1;
                case 2:
                    return ORDERS_OF_2;
                case 3:
                    return ORDERS_OF_3;
                default:
                    return ORDERS_OF_4;
            }
        }
    }

    /** The latest changes, in a ring, so that the ninth takes the place of the first. */
    private static final class Past {
        static final int ADDED = 0, REMOVED = 1, SUPPORTED = 2;

        int size = 0;
        private int next = 0;
        private final int[] kinds = new int[MOST_UNDONE];
        /** The entry that was put in or taken out, or the support that was. */
        private final int[] numbers = new int[MOST_UNDONE];
        private final int[] codes = new int[MOST_UNDONE];
        private final int[] measures = new int[MOST_UNDONE];

        void record(int kind, int number, int code, int measure) {
            kinds[next] = kind;
            numbers[next] = number;
            codes[next] = code;
            measures[next] = measure;
            next = next + 1 < MOST_UNDONE ? next + 1 : 0;
            size = Math.min(size + 1, MOST_UNDONE);
        }

        void undoLatest(Table table) {
            if (size == 0) {
                return;
            }
            next = next > 0 ? next - 1 : MOST_UNDONE - 1;
            size--;
            switch (kinds[next]) {
                case ADDED:
                    table.takeOut(numbers[next]);
                    break;
                case REMOVED:
                    table.insert(numbers[next], codes[next], measures[next]);
                    break;
                default:
                    table.enough = numbers[next];
                    break;
            }
        }
    }

    /** The letters, and the token that is looked at: from start to before end; at the end it is empty. */
    private static final class Text {
        private static final char BLANK = ' ';
        private static final int MOST_DIGITS = 2;

        final char[] letters = new char[MOST_LETTERS];
        int length = 0;
        int start = 0;
        private int end = 0;

        boolean append(char letter) {
            if (length >= MOST_LETTERS) {
                return false;
            }
            letters[length] = letter;
            length++;
            return true;
        }

        /** The next token is the first one again. */
        void rewind() {
            end = 0;
        }

        void toNextToken() {
            start = end;
            while (start < length && letters[start] == BLANK) {
                start++;
            }
            end = start;
            if (start >= length) {
                return;
            }
            end++;
            if (isSmall(letters[start])) {
                while (end < length && isSmall(letters[end])) {
                    end++;
                }
            } else if (isDigit(letters[start])) {
                while (end < length && isDigit(letters[end])) {
                    end++;
                }
            }
        }

        boolean isAtEnd() {
            return start >= length;
        }

        boolean isToken(String word) {
            if (end - start != word.length()) {
                return false;
            }
            for (int i = 0; i < word.length() && start + i < length; i++) {
                if (letters[start + i] != word.charAt(i)) {
                    return false;
                }
            }
            return true;
        }

        /** The token's number; NONE if it is no number of one or two digits within these bounds. */
        int numberWithin(int least, int most) {
            if (isAtEnd() || !isDigit(letters[start]) || end - start > MOST_DIGITS) {
                return NONE;
            }
            int number = 0;
            for (int i = start; i < end && i < length; i++) {
                number = number * 10 + letters[i] - '0';
            }
            return number >= least && number <= most ? number : NONE;
        }

        private static boolean isSmall(char letter) {
            return letter >= 'a' && letter <= 'z';
        }

        private static boolean isDigit(char letter) {
            return letter >= '0' && letter <= '9';
        }
    }

    /** The text's clauses, done on a draft, so that a text with a fault changes nothing. */
    private static final class Clauses {
        final Text text = new Text();
        final Table draft = new Table();
        int done = 0;
        private final int[] newValues = new int[MOST_DIMENSIONS];

        /** Does the clauses on a copy of the table: the place of the fault, or NONE. */
        int draftUpon(Table table) {
            draft.copyFrom(table);
            text.rewind();
            for (done = 1; done <= MOST_CLAUSES; done++) {
                text.toNextToken();
                if (!doClause()) {
                    return text.start;
                }
                if (text.isAtEnd()) {
                    return NONE;
                }
                if (!text.isToken(";")) {
                    return text.start;
                }
            }
            // Behind the last clause that there may be, not even ; can stand.
            return text.start;
        }

        /** False at a token that cannot stand there; else the token behind the clause is looked at. */
        private boolean doClause() {
            if (text.isToken("table")) {
                return doTable();
            }
            if (text.isToken("support")) {
                return doSupport();
            }
            return text.isToken("row") && draft.size < MOST_ENTRIES && doRow();
        }

        private boolean doTable() {
            text.toNextToken();
            int dimensions = 0;
            while (dimensions < MOST_DIMENSIONS) {
                int many = text.numberWithin(1, MOST_VALUES);
                if (many == NONE) {
                    break;
                }
                newValues[dimensions] = many;
                dimensions++;
                text.toNextToken();
            }
            if (dimensions == 0) {
                return false;
            }
            draft.startWith(dimensions, newValues);
            return true;
        }

        private boolean doSupport() {
            text.toNextToken();
            int enough = text.numberWithin(1, MOST_SUPPORT);
            if (enough == NONE) {
                return false;
            }
            draft.enough = enough;
            text.toNextToken();
            return true;
        }

        private boolean doRow() {
            text.toNextToken();
            int code = 0;
            for (int dimension = 0; dimension < draft.dimensions; dimension++) {
                int value = text.numberWithin(0, draft.values[dimension] - 1);
                if (value == NONE) {
                    return false;
                }
                code = code * CODE_BASE + value + 1;
                text.toNextToken();
            }
            int measure = text.numberWithin(0, MOST_MEASURE);
            if (measure == NONE) {
                return false;
            }
            draft.insert(draft.size, code, measure);
            text.toNextToken();
            return true;
        }
    }

    /** Rows of longs; a missing one has the length MISSING. */
    private static final class LongRows {
        static final int MISSING = -1;

        final int[] lengths = new int[ROWS];
        final long[][] places = new long[ROWS][MOST_PLACES];

        LongRows() {
            for (int row = 0; row < ROWS; row++) {
                lengths[row] = MISSING;
            }
        }

        static boolean isRow(int row) {
            return row >= 0 && row < ROWS;
        }

        boolean isMissing(int row) {
            return !isRow(row) || lengths[row] == MISSING;
        }

        void renew(int row, int n) {
            if (!isRow(row) || n < 0 || n > MOST_PLACES) {
                return;
            }
            lengths[row] = n;
            for (int i = 0; i < n; i++) {
                places[row][i] = 0;
            }
        }

        /** What the machine would find at a place of a row: NULL, INDEX, or 1 for nothing amiss. */
        int finds(int row, int i) {
            if (isMissing(row)) {
                return NULL;
            }
            return i < 0 || i >= lengths[row] ? INDEX : 1;
        }

        int put(int row, int i, long value) {
            int found = finds(row, i);
            if (found > 0) {
                places[row][i] = value;
            }
            return found;
        }

        int placesInAll() {
            int all = 0;
            for (int row = 0; row < ROWS; row++) {
                all += Math.max(lengths[row], 0);
            }
            return all;
        }
    }

    /** What a long cannot hold is found before it is used. */
    private static final class Exact {
        static final int PLUS = 0, MINUS = 1;
        private static final long LEAST_LONG = 1L << 63;

        private Exact() {
        }

        static long result(long a, int way, long b) {
            switch (way) {
                case PLUS:
                    return a + b;
                case MINUS:
                    return a - b;
                default:
                    return a * b;
            }
        }

        static boolean isOver(long a, int way, long b) {
            long result = result(a, way, b);
            switch (way) {
                case PLUS:
                    return ((a ^ result) & (b ^ result)) < 0;
                case MINUS:
                    return ((a ^ b) & (a ^ result)) < 0;
                default:
                    // The least long divided by -1 wraps round to itself, so it is looked at apart.
                    return b == -1 ? a == LEAST_LONG : b != 0 && result / b != a;
            }
        }
    }
}
