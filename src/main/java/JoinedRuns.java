import java.util.Arrays;

/** Four columns of values, kept as runs of like values and never unrolled. */
public final class JoinedRuns {
    public static final int NO_SUCH = -1, BAD_VALUE = -2, BAD_TEXT = -3, TOO_MANY = -4, NOT_POSSIBLE = -5, NONE = -6;

    private static final int COLUMNS = 4;
    private static final int VALUES = 10;
    private static final int MOST_ROWS = 999;
    private static final int MOST_RUNS = 40;
    /** Each run of pairs ends a run of one column or of both, so no join has more. */
    private static final int MOST_PAIRS = 2 * MOST_RUNS;
    private static final int MOST_CHARACTERS = 80;
    private static final int MOST_STATES = 6;
    private static final int SLOTS = 2;
    /** What a draft answers when it stands; all error codes are below it. */
    private static final int OK = 0;

    private final State now = new State();
    private final History history = new History();
    private final State[] slots = new State[SLOTS];
    private final boolean[] saved = new boolean[SLOTS];
    /** A change is built here first, so that one that fails leaves its column as it was. */
    private final Column draft = new Column();
    private final OrderReader reader = new OrderReader();
    private final Pad pad = reader.pad();
    /** For each value of the one column the set of values of the other that stand beside it. */
    private final int[] partners = new int[VALUES];

    public JoinedRuns() {
        for (int k = 0; k < SLOTS; k++) {
            slots[k] = new State();
        }
    }

    // ---- changes

    public int append(int column, int value, int length) {
        int error = draftAppend(column, value, length);
        if (error != OK) {
            return error;
        }
        recordAndTakeDraft(column);
        return now.column(column).rows();
    }

    public int insert(int column, int row, int value, int length) {
        int error = draftInsert(column, row, value, length);
        if (error != OK) {
            return error;
        }
        recordAndTakeDraft(column);
        return now.column(column).runs();
    }

    public int remove(int column, int row, int many) {
        int error = draftRemove(column, row, many);
        if (error != OK) {
            return error;
        }
        recordAndTakeDraft(column);
        return now.column(column).runs();
    }

    public int set(int column, int row, int value) {
        int error = draftSet(column, row, value);
        if (error != OK) {
            return error;
        }
        int previous = now.column(column).valueOfRow(row);
        recordAndTakeDraft(column);
        return previous;
    }

    public int sort(int column) {
        int error = draftSort(column);
        if (error != OK) {
            return error;
        }
        recordAndTakeDraft(column);
        return now.column(column).runs();
    }

    public int turn(int column, int from) {
        if (!isColumn(column) || !isColumn(from)) {
            return NO_SUCH;
        }
        draft.clear();
        draft.addTurned(now.column(from));
        recordAndTakeDraft(column);
        return now.column(column).rows();
    }

    public int merge(int column, int one, int other, int what) {
        int error = draftMerge(column, one, other, what);
        if (error != OK) {
            return error;
        }
        recordAndTakeDraft(column);
        return now.column(column).rows();
    }

    // ---- what there is

    public int run(int column, int run, int what) {
        if (!isColumn(column)) {
            return NO_SUCH;
        }
        Column there = now.column(column);
        if (run < 0 || run >= there.runs()) {
            return NO_SUCH;
        }
        switch (what) {
            case 0: return there.valueOfRun(run);
            case 1: return there.lengthOfRun(run);
            case 2: return there.firstRowOfRun(run);
            default: return BAD_VALUE;
        }
    }

    public int value(int column, int row) {
        if (!isRow(column, row)) {
            return NO_SUCH;
        }
        return now.column(column).valueOfRow(row);
    }

    public int find(int column, int value, int rank) {
        if (!isColumn(column)) {
            return NO_SUCH;
        }
        if (!isValue(value) || rank < 0) {
            return BAD_VALUE;
        }
        return now.column(column).rowOfRank(value, rank);
    }

    public int ofColumn(int column, int what) {
        if (!isColumn(column)) {
            return NO_SUCH;
        }
        Column there = now.column(column);
        switch (what) {
            case 0: return there.rows();
            case 1: return there.runs();
            case 2: return there.sum();
            case 3: return there.longest();
            case 4: return there.valueSet();
            case 5: return there.neverFalls() ? 1 : 0;
            case 6: return there.neverRises() ? 1 : 0;
            default: return BAD_VALUE;
        }
    }

    public int group(int column, int value, int what) {
        if (!isColumn(column)) {
            return NO_SUCH;
        }
        if (!isValue(value)) {
            return BAD_VALUE;
        }
        Column there = now.column(column);
        switch (what) {
            case 0: return there.rowsOf(value);
            case 1: return there.runsOf(value);
            case 2: return there.longestOf(value);
            default: return BAD_VALUE;
        }
    }

    public int count(int what) {
        switch (what) {
            case 0: return now.allRows();
            case 1: return now.allRuns();
            case 2: return pad.length();
            case 3: return history.kept();
            default: return BAD_VALUE;
        }
    }

    // ---- joins

    public int pair(int one, int other, int pair, int what) {
        if (!isColumn(one) || !isColumn(other) || pair < 0 || pair >= MOST_PAIRS) {
            return NO_SUCH;
        }
        PairWalk walk = walkOver(one, other);
        for (int k = 0; k <= pair; k++) {
            if (!walk.advance()) {
                return NO_SUCH;
            }
        }
        switch (what) {
            case 0: return walk.valueOfOne();
            case 1: return walk.valueOfOther();
            case 2: return walk.length();
            case 3: return walk.firstRow();
            default: return BAD_VALUE;
        }
    }

    public int joined(int one, int other, int what) {
        if (!isColumn(one) || !isColumn(other)) {
            return NO_SUCH;
        }
        switch (what) {
            case 0: return Math.min(now.column(one).rows(), now.column(other).rows());
            case 1: return runsOfPairs(walkOver(one, other));
            case 2: return rowsAlike(walkOver(one, other));
            case 3: return sumOfProducts(walkOver(one, other));
            case 4: return unlikePairs(walkOver(one, other));
            default: return BAD_VALUE;
        }
    }

    public int alike(int one, int other) {
        if (!isColumn(one) || !isColumn(other)) {
            return NO_SUCH;
        }
        int many = 0;
        for (int value = 0; value < VALUES; value++) {
            many += now.column(one).rowsOf(value) * now.column(other).rowsOf(value);
        }
        return many;
    }

    // ---- what if; nothing changes

    public int saves(int column) {
        if (!isColumn(column)) {
            return NO_SUCH;
        }
        Column there = now.column(column);
        return there.runs() - Integer.bitCount(there.valueSet());
    }

    public int bestSet(int column, int value, int what) {
        if (!isColumn(column)) {
            return NO_SUCH;
        }
        if (!isValue(value) || what < 0 || what > 1) {
            return BAD_VALUE;
        }
        Column there = now.column(column);
        if (there.rows() == 0) {
            return NONE;
        }
        int row = there.bestRowToSet(value);
        return what == 0 ? row : there.runsAfterSet(row, value);
    }

    // ---- texts

    public int put(long characters) {
        int many = charactersIn(characters);
        if (many < 1) {
            return BAD_VALUE;
        }
        if (many > MOST_CHARACTERS - pad.length()) {
            return TOO_MANY;
        }
        for (int k = many - 1; k >= 0; k--) {
            pad.add((char) (characters >>> (8 * k) & 255));
        }
        return pad.length();
    }

    public int wipe() {
        int length = pad.length();
        pad.clear();
        return length;
    }

    public int fault() {
        return reader.firstFault();
    }

    public int carryOut() {
        if (reader.firstFault() != NONE) {
            return BAD_TEXT;
        }
        history.record(now);
        int many = obeyOrders();
        pad.clear();
        return many;
    }

    // ---- undo, saving

    public int undo() {
        if (history.kept() == 0) {
            return NOT_POSSIBLE;
        }
        history.takeBack(now);
        return history.kept();
    }

    public int save(int slot) {
        if (!isSlot(slot)) {
            return BAD_VALUE;
        }
        slots[slot].copyFrom(now);
        saved[slot] = true;
        return now.allRuns();
    }

    public int restore(int slot) {
        if (!isSlot(slot)) {
            return BAD_VALUE;
        }
        if (!saved[slot]) {
            return NOT_POSSIBLE;
        }
        history.record(now);
        now.copyFrom(slots[slot]);
        return now.allRuns();
    }

    // ---- arguments

    private static boolean isColumn(int column) {
        return column >= 0 && column < COLUMNS;
    }

    private static boolean isValue(int value) {
        return value >= 0 && value < VALUES;
    }

    private static boolean isLength(int length) {
        return length >= 1 && length <= MOST_ROWS;
    }

    private static boolean isSlot(int slot) {
        return slot >= 0 && slot < SLOTS;
    }

    private boolean isRow(int column, int row) {
        return isColumn(column) && row >= 0 && row < now.column(column).rows();
    }

    // ---- drafts: the errors of a change, and the column as it would be after it

    private int draftAppend(int column, int value, int length) {
        if (!isColumn(column)) {
            return NO_SUCH;
        }
        if (!isValue(value) || !isLength(length)) {
            return BAD_VALUE;
        }
        draft.copyFrom(now.column(column));
        draft.addRun(value, length);
        return errorOfDraft();
    }

    private int draftInsert(int column, int row, int value, int length) {
        if (!isColumn(column)) {
            return NO_SUCH;
        }
        Column there = now.column(column);
        if (row < 0 || row > there.rows() || !isValue(value) || !isLength(length)) {
            return BAD_VALUE;
        }
        draft.clear();
        draft.addRows(there, 0, row);
        draft.addRun(value, length);
        draft.addRows(there, row, there.rows());
        return errorOfDraft();
    }

    private int draftRemove(int column, int row, int many) {
        if (!isRow(column, row)) {
            return NO_SUCH;
        }
        if (many < 1) {
            return BAD_VALUE;
        }
        Column there = now.column(column);
        if (many > there.rows() - row) {
            return NOT_POSSIBLE;
        }
        draft.clear();
        draft.addRows(there, 0, row);
        draft.addRows(there, row + many, there.rows());
        return errorOfDraft();
    }

    private int draftSet(int column, int row, int value) {
        if (!isRow(column, row)) {
            return NO_SUCH;
        }
        if (!isValue(value)) {
            return BAD_VALUE;
        }
        Column there = now.column(column);
        draft.clear();
        draft.addRows(there, 0, row);
        draft.addRun(value, 1);
        draft.addRows(there, row + 1, there.rows());
        return errorOfDraft();
    }

    private int draftSort(int column) {
        if (!isColumn(column)) {
            return NO_SUCH;
        }
        Column there = now.column(column);
        draft.clear();
        for (int value = 0; value < VALUES; value++) {
            draft.addRun(value, there.rowsOf(value));
        }
        return errorOfDraft();
    }

    private int draftMerge(int column, int one, int other, int what) {
        if (!isColumn(column) || !isColumn(one) || !isColumn(other)) {
            return NO_SUCH;
        }
        if (what < 0 || what > 2) {
            return BAD_VALUE;
        }
        PairWalk walk = walkOver(one, other);
        draft.clear();
        for (int k = 0; k < MOST_PAIRS && walk.advance(); k++) {
            if (what == 0) {
                draft.addRun(Math.min(walk.valueOfOne(), walk.valueOfOther()), walk.length());
            } else if (what == 1) {
                draft.addRun(Math.max(walk.valueOfOne(), walk.valueOfOther()), walk.length());
            } else if (walk.isAlike()) {
                draft.addRun(walk.valueOfOne(), walk.length());
            }
        }
        return errorOfDraft();
    }

    /** The draft of the order that was read last. */
    private int draftOrder() {
        int column = reader.column();
        char kind = reader.kind();
        if (kind == '!') {
            return draftSort(column);
        }
        if (kind == '-') {
            return draftRemove(column, reader.row(), reader.operand());
        }
        if (kind == '@') {
            return draftSet(column, reader.row(), reader.operand());
        }
        draft.clear();
        if (kind == '+') {
            draft.copyFrom(now.column(column));
        }
        return draftRunsOfOrder();
    }

    private int draftRunsOfOrder() {
        for (int k = 0; k < reader.runs(); k++) {
            if (!isLength(reader.lengthOfRun(k))) {
                return BAD_VALUE;
            }
            draft.addRun(reader.valueOfRun(k), reader.lengthOfRun(k));
        }
        return errorOfDraft();
    }

    private int errorOfDraft() {
        return draft.isOverfull() ? TOO_MANY : OK;
    }

    private void recordAndTakeDraft(int column) {
        history.record(now);
        now.column(column).copyFrom(draft);
    }

    /** Nothing is recorded here: all orders of a text are one change. */
    private int obeyOrders() {
        int many = 0;
        reader.start();
        for (int k = 0; k < MOST_CHARACTERS; k++) {
            if (!reader.readOrder() || draftOrder() != OK) {
                return many;
            }
            now.column(reader.column()).copyFrom(draft);
            many++;
            if (!reader.passes(';')) {
                return many;
            }
        }
        return many;
    }

    // ---- what the walks over pairs add up

    private PairWalk walkOver(int one, int other) {
        return new PairWalk(now.column(one), now.column(other));
    }

    private static int runsOfPairs(PairWalk walk) {
        int many = 0;
        for (int k = 0; k < MOST_PAIRS && walk.advance(); k++) {
            many++;
        }
        return many;
    }

    private static int rowsAlike(PairWalk walk) {
        int many = 0;
        for (int k = 0; k < MOST_PAIRS && walk.advance(); k++) {
            if (walk.isAlike()) {
                many += walk.length();
            }
        }
        return many;
    }

    private static int sumOfProducts(PairWalk walk) {
        int sum = 0;
        for (int k = 0; k < MOST_PAIRS && walk.advance(); k++) {
            sum += walk.valueOfOne() * walk.valueOfOther() * walk.length();
        }
        return sum;
    }

    private int unlikePairs(PairWalk walk) {
        Arrays.fill(partners, 0);
        for (int k = 0; k < MOST_PAIRS && walk.advance(); k++) {
            int value = walk.valueOfOne();
            if (isValue(value)) {
                partners[value] |= 1 << walk.valueOfOther();
            }
        }
        int many = 0;
        for (int value = 0; value < VALUES; value++) {
            many += Integer.bitCount(partners[value]);
        }
        return many;
    }

    /** How many characters the number gives, or BAD_VALUE if it isn't one of characters. */
    private static int charactersIn(long characters) {
        long rest = characters;
        int many = 0;
        for (int k = 0; k < 8 && (rest & 255) != 0; k++) {
            long code = rest & 255;
            if (code < 33 || code > 126) {
                return BAD_VALUE;
            }
            many++;
            rest >>>= 8;
        }
        return rest == 0 ? many : BAD_VALUE;
    }

    /** A column: its runs from the first row to the last, two side by side never alike. */
    private static final class Column {
        private final int[] values = new int[MOST_RUNS];
        private final int[] lengths = new int[MOST_RUNS];
        private int runs;
        private int rows;
        /** Set when more was added than a column can have; such a column is only ever a draft. */
        private boolean overfull;

        int runs() {
            return runs;
        }

        int rows() {
            return rows;
        }

        boolean isOverfull() {
            return overfull;
        }

        /** NONE beyond both ends, so that an end is like no value. */
        int valueOfRun(int run) {
            return run >= 0 && run < runs ? values[run] : NONE;
        }

        int lengthOfRun(int run) {
            return run >= 0 && run < runs ? lengths[run] : 0;
        }

        int firstRowOfRun(int run) {
            int row = 0;
            for (int k = 0; k < run && k < runs; k++) {
                row += lengths[k];
            }
            return row;
        }

        int runOfRow(int row) {
            int end = 0;
            for (int k = 0; k < runs; k++) {
                end += lengths[k];
                if (row < end) {
                    return k;
                }
            }
            return runs;
        }

        int valueOfRow(int row) {
            return valueOfRun(runOfRow(row));
        }

        int rowOfRank(int value, int rank) {
            int first = 0;
            int left = rank;
            for (int k = 0; k < runs; k++) {
                if (values[k] == value) {
                    if (left < lengths[k]) {
                        return first + left;
                    }
                    left -= lengths[k];
                }
                first += lengths[k];
            }
            return NONE;
        }

        int sum() {
            int sum = 0;
            for (int k = 0; k < runs; k++) {
                sum += values[k] * lengths[k];
            }
            return sum;
        }

        int longest() {
            int most = 0;
            for (int k = 0; k < runs; k++) {
                most = Math.max(most, lengths[k]);
            }
            return most;
        }

        int valueSet() {
            int set = 0;
            for (int k = 0; k < runs; k++) {
                set |= 1 << values[k];
            }
            return set;
        }

        boolean neverFalls() {
            for (int k = 1; k < runs; k++) {
                if (values[k] < values[k - 1]) {
                    return false;
                }
            }
            return true;
        }

        boolean neverRises() {
            for (int k = 1; k < runs; k++) {
                if (values[k] > values[k - 1]) {
                    return false;
                }
            }
            return true;
        }

        int rowsOf(int value) {
            int many = 0;
            for (int k = 0; k < runs; k++) {
                if (values[k] == value) {
                    many += lengths[k];
                }
            }
            return many;
        }

        int runsOf(int value) {
            int many = 0;
            for (int k = 0; k < runs; k++) {
                if (values[k] == value) {
                    many++;
                }
            }
            return many;
        }

        int longestOf(int value) {
            int most = 0;
            for (int k = 0; k < runs; k++) {
                if (values[k] == value) {
                    most = Math.max(most, lengths[k]);
                }
            }
            return most;
        }

        /** Counted, not built: the answer may be more runs than a column can have. */
        int runsAfterSet(int row, int value) {
            int run = runOfRow(row);
            if (valueOfRun(run) == value) {
                return runs;
            }
            int first = firstRowOfRun(run);
            boolean isFirst = row == first;
            boolean isLast = row == first + lengthOfRun(run) - 1;
            int many = runs;
            if (!isFirst) {
                many++;
            } else if (valueOfRun(run - 1) == value) {
                many--;
            }
            if (!isLast) {
                many++;
            } else if (valueOfRun(run + 1) == value) {
                many--;
            }
            return many;
        }

        /** Only the ends of runs are tried: a row between them cuts its run in three, which an end never does. */
        int bestRowToSet(int value) {
            int best = 0;
            int fewest = runsAfterSet(0, value);
            int first = 0;
            for (int k = 0; k < runs; k++) {
                int last = first + lengths[k] - 1;
                if (runsAfterSet(first, value) < fewest) {
                    best = first;
                    fewest = runsAfterSet(first, value);
                }
                if (runsAfterSet(last, value) < fewest) {
                    best = last;
                    fewest = runsAfterSet(last, value);
                }
                first = last + 1;
            }
            return best;
        }

        void clear() {
            runs = 0;
            rows = 0;
            overfull = false;
        }

        void copyFrom(Column other) {
            System.arraycopy(other.values, 0, values, 0, MOST_RUNS);
            System.arraycopy(other.lengths, 0, lengths, 0, MOST_RUNS);
            runs = other.runs;
            rows = other.rows;
            overfull = other.overfull;
        }

        /** A length below 1 adds nothing: it is what a cut leaves of a run that it takes away whole. */
        void addRun(int value, int length) {
            if (length < 1 || overfull) {
                return;
            }
            if (length > MOST_ROWS - rows) {
                overfull = true;
            } else if (runs > 0 && runs <= MOST_RUNS && values[runs - 1] == value) {
                lengths[runs - 1] += length;
                rows += length;
            } else if (runs < MOST_RUNS) {
                values[runs] = value;
                lengths[runs] = length;
                runs++;
                rows += length;
            } else {
                overfull = true;
            }
        }

        /** Adds the rows of another column from one row on to ahead of another one. */
        void addRows(Column other, int from, int to) {
            int first = 0;
            for (int k = 0; k < other.runs; k++) {
                int end = first + other.lengths[k];
                addRun(other.values[k], Math.min(end, to) - Math.max(first, from));
                first = end;
            }
        }

        void addTurned(Column other) {
            for (int k = other.runs - 1; k >= 0; k--) {
                addRun(other.values[k], other.lengths[k]);
            }
        }
    }

    /** All that a change can change. */
    private static final class State {
        private final Column[] columns = new Column[COLUMNS];

        State() {
            for (int k = 0; k < COLUMNS; k++) {
                columns[k] = new Column();
            }
        }

        /** The callers have asked isColumn; here, too, no index is used that was not looked at. */
        Column column(int column) {
            return columns[column >= 0 && column < COLUMNS ? column : 0];
        }

        int allRows() {
            int many = 0;
            for (int k = 0; k < COLUMNS; k++) {
                many += columns[k].rows();
            }
            return many;
        }

        int allRuns() {
            int many = 0;
            for (int k = 0; k < COLUMNS; k++) {
                many += columns[k].runs();
            }
            return many;
        }

        void copyFrom(State other) {
            for (int k = 0; k < COLUMNS; k++) {
                columns[k].copyFrom(other.columns[k]);
            }
        }
    }

    /** The states ahead of the latest changes, in a ring whose places are used again. */
    private static final class History {
        private final State[] states = new State[MOST_STATES];
        private int oldest;
        private int kept;

        History() {
            for (int k = 0; k < MOST_STATES; k++) {
                states[k] = new State();
            }
        }

        int kept() {
            return kept;
        }

        void record(State state) {
            states[(oldest + kept) % MOST_STATES].copyFrom(state);
            if (kept < MOST_STATES) {
                kept++;
            } else {
                oldest = (oldest + 1) % MOST_STATES;
            }
        }

        void takeBack(State into) {
            if (kept > 0) {
                kept--;
                into.copyFrom(states[(oldest + kept) % MOST_STATES]);
            }
        }
    }

    /** Walks over two columns joined by rows, a run of pairs at a time. */
    private static final class PairWalk {
        private final Column one;
        private final Column other;
        private int runOfOne;
        private int runOfOther;
        /** How many rows of the run, the one's or the other's, the walk has behind it. */
        private int passedOfOne;
        private int passedOfOther;
        private int valueOfOne;
        private int valueOfOther;
        private int firstRow;
        private int length;

        PairWalk(Column one, Column other) {
            this.one = one;
            this.other = other;
        }

        int valueOfOne() {
            return valueOfOne;
        }

        int valueOfOther() {
            return valueOfOther;
        }

        int length() {
            return length;
        }

        int firstRow() {
            return firstRow;
        }

        boolean isAlike() {
            return valueOfOne == valueOfOther;
        }

        /** A pair ends where a run of either column does, so the next one is never like it. */
        boolean advance() {
            if (runOfOne >= one.runs() || runOfOther >= other.runs()) {
                return false;
            }
            firstRow += length;
            valueOfOne = one.valueOfRun(runOfOne);
            valueOfOther = other.valueOfRun(runOfOther);
            int leftOfOne = one.lengthOfRun(runOfOne) - passedOfOne;
            int leftOfOther = other.lengthOfRun(runOfOther) - passedOfOther;
            length = Math.min(leftOfOne, leftOfOther);
            passedOfOne += length;
            passedOfOther += length;
            if (length == leftOfOne) {
                runOfOne++;
                passedOfOne = 0;
            }
            if (length == leftOfOther) {
                runOfOther++;
                passedOfOther = 0;
            }
            return true;
        }
    }

    /** The text of orders. */
    private static final class Pad {
        private final char[] signs = new char[MOST_CHARACTERS];
        private int length;

        int length() {
            return length;
        }

        /** 0 behind the last character: it stands in no text. */
        char signAt(int place) {
            return place >= 0 && place < length ? signs[place] : 0;
        }

        void add(char sign) {
            if (length < MOST_CHARACTERS) {
                signs[length] = sign;
                length++;
            }
        }

        void clear() {
            length = 0;
        }
    }

    /**
     * Reads the pad from left to right and holds the order that it read last. When it can't read on, it
     * stands at the first character that cannot stand there, or behind the last one: this is the fault.
     */
    private static final class OrderReader {
        private final Pad pad = new Pad();
        private final int[] values = new int[MOST_RUNS];
        private final int[] lengths = new int[MOST_RUNS];
        private int runs;
        private int place;
        private int column;
        private char kind;
        private int row;
        private int operand;
        /** The number or digit that was read last. */
        private int number;

        Pad pad() {
            return pad;
        }

        int column() {
            return column;
        }

        char kind() {
            return kind;
        }

        int row() {
            return row;
        }

        /** How many rows "-" takes out, or the value that "@" sets. */
        int operand() {
            return operand;
        }

        int runs() {
            return runs;
        }

        int valueOfRun(int run) {
            return run >= 0 && run < runs ? values[run] : NONE;
        }

        int lengthOfRun(int run) {
            return run >= 0 && run < runs ? lengths[run] : 0;
        }

        void start() {
            place = 0;
        }

        int firstFault() {
            start();
            for (int k = 0; k < MOST_CHARACTERS; k++) {
                if (!readOrder()) {
                    return place;
                }
                if (!passes(';')) {
                    return place == pad.length() ? NONE : place;
                }
            }
            return place;
        }

        boolean readOrder() {
            if (!readDigit(COLUMNS - 1)) {
                return false;
            }
            column = number;
            kind = pad.signAt(place);
            if (passes('=') || passes('+')) {
                return readRuns();
            }
            if (passes('-')) {
                return readRow() && passes('*') && readNumber() && keepOperand();
            }
            if (passes('@')) {
                return readRow() && passes('=') && readDigit(VALUES - 1) && keepOperand();
            }
            return passes('!');
        }

        /** Steps over a sign if it is the one that is told. */
        boolean passes(char sign) {
            if (pad.signAt(place) != sign) {
                return false;
            }
            place++;
            return true;
        }

        private boolean readRow() {
            if (!readNumber()) {
                return false;
            }
            row = number;
            return true;
        }

        private boolean keepOperand() {
            operand = number;
            return true;
        }

        /** A pad of 80 characters has room for 39 runs, so the bound cuts none off. */
        private boolean readRuns() {
            runs = 0;
            for (int k = 0; k < MOST_RUNS; k++) {
                if (!readDigit(VALUES - 1)) {
                    return false;
                }
                values[k] = number;
                lengths[k] = 1;
                if (passes('*')) {
                    if (!readNumber()) {
                        return false;
                    }
                    lengths[k] = number;
                }
                runs = k + 1;
                if (!passes(',')) {
                    return true;
                }
            }
            return false;
        }

        /** Stops ahead of a digit behind a leading zero or three digits: no text goes on with one there. */
        private boolean readNumber() {
            if (!readDigit(9)) {
                return false;
            }
            int whole = number;
            for (int k = 0; k < 2 && whole > 0 && readDigit(9); k++) {
                whole = 10 * whole + number;
            }
            number = whole;
            return true;
        }

        private boolean readDigit(int most) {
            int digit = pad.signAt(place) - '0';
            if (digit < 0 || digit > most) {
                return false;
            }
            number = digit;
            place++;
            return true;
        }
    }
}
