import java.util.ArrayList;
import java.util.Arrays;
import java.util.HashSet;
import java.util.List;
import java.util.Set;
import java.util.regex.Matcher;
import java.util.regex.Pattern;

/**
 * The document's promises told a second time, in another way: columns stand here row by row, a change is
 * made first and judged then, and texts are judged by a regular expression.
 */
final class Model {
    private static final int NO_SUCH = -1, BAD_VALUE = -2, BAD_TEXT = -3, TOO_MANY = -4, NOT_POSSIBLE = -5, NONE = -6;
    private static final String NUMBER = "(?:0|[1-9][0-9]{0,2})";
    private static final String RUNS = "[0-9](?:[*]" + NUMBER + ")?(?:,[0-9](?:[*]" + NUMBER + ")?)*";
    private static final String ORDER = "[0-3](?:[=+]" + RUNS + "|!|-" + NUMBER + "[*]" + NUMBER + "|@" + NUMBER + "=[0-9])";
    private static final Pattern TEXT = Pattern.compile(ORDER + "(?:;" + ORDER + ")*");

    private int[][] columns = {{}, {}, {}, {}};
    private final int[][][] slots = new int[2][][];
    private final List<int[][]> history = new ArrayList<>();
    private String pad = "";
    private boolean inText = false;

    /** Rows are never changed in place, so that states may share them. */
    private int take(int column, int[] rows) {
        if (rows.length > 999 || runs(rows).size() > 40) {
            return TOO_MANY;
        }
        record();
        columns = columns.clone();
        columns[column] = rows;
        return 0;
    }

    private void record() {
        if (!inText) {
            history.add(columns);
            if (history.size() > 6) {
                history.remove(0);
            }
        }
    }

    private static boolean column(int column) {
        return 0 <= column && column <= 3;
    }

    private static int[] filled(int value, int length) {
        int[] rows = new int[length];
        Arrays.fill(rows, value);
        return rows;
    }

    private static int[] concat(int[]... parts) {
        return Arrays.stream(parts).flatMapToInt(Arrays::stream).toArray();
    }

    /** Each run as value, length and first row. */
    private static List<int[]> runs(int[] rows) {
        List<int[]> runs = new ArrayList<>();
        for (int row = 0; row < rows.length; row++) {
            if (row > 0 && rows[row] == rows[row - 1]) {
                runs.get(runs.size() - 1)[1]++;
            } else {
                runs.add(new int[] {rows[row], 1, row});
            }
        }
        return runs;
    }

    int append(int column, int value, int length) {
        if (!column(column)) {
            return NO_SUCH;
        }
        if (value < 0 || value > 9 || length < 1 || length > 999) {
            return BAD_VALUE;
        }
        int error = take(column, concat(columns[column], filled(value, length)));
        return error < 0 ? error : columns[column].length;
    }

    int insert(int column, int row, int value, int length) {
        if (!column(column)) {
            return NO_SUCH;
        }
        int[] rows = columns[column];
        if (row < 0 || row > rows.length || value < 0 || value > 9 || length < 1 || length > 999) {
            return BAD_VALUE;
        }
        int error = take(column, concat(Arrays.copyOfRange(rows, 0, row), filled(value, length), Arrays.copyOfRange(rows, row, rows.length)));
        return error < 0 ? error : ofColumn(column, 1);
    }

    int remove(int column, int row, int many) {
        if (value(column, row) < 0) {
            return NO_SUCH;
        }
        if (many < 1) {
            return BAD_VALUE;
        }
        int[] rows = columns[column];
        if ((long) row + many > rows.length) {
            return NOT_POSSIBLE;
        }
        take(column, concat(Arrays.copyOfRange(rows, 0, row), Arrays.copyOfRange(rows, row + many, rows.length)));
        return ofColumn(column, 1);
    }

    int set(int column, int row, int value) {
        int previous = value(column, row);
        if (previous < 0) {
            return NO_SUCH;
        }
        if (value < 0 || value > 9) {
            return BAD_VALUE;
        }
        int[] rows = columns[column].clone();
        rows[row] = value;
        int error = take(column, rows);
        return error < 0 ? error : previous;
    }

    int sort(int column) {
        if (!column(column)) {
            return NO_SUCH;
        }
        int[] rows = columns[column].clone();
        Arrays.sort(rows);
        take(column, rows);
        return ofColumn(column, 1);
    }

    int turn(int column, int from) {
        if (!column(column) || !column(from)) {
            return NO_SUCH;
        }
        int[] rows = new int[columns[from].length];
        for (int row = 0; row < rows.length; row++) {
            rows[row] = columns[from][rows.length - 1 - row];
        }
        take(column, rows);
        return rows.length;
    }

    int merge(int column, int one, int other, int what) {
        if (!column(column) || !column(one) || !column(other)) {
            return NO_SUCH;
        }
        if (what < 0 || what > 2) {
            return BAD_VALUE;
        }
        List<Integer> rows = new ArrayList<>();
        for (int[] pair : pairs(one, other)) {
            if (what < 2) {
                rows.add(what == 0 ? Math.min(pair[0], pair[1]) : Math.max(pair[0], pair[1]));
            } else if (pair[0] == pair[1]) {
                rows.add(pair[0]);
            }
        }
        int error = take(column, rows.stream().mapToInt(Integer::intValue).toArray());
        return error < 0 ? error : rows.size();
    }

    int run(int column, int run, int what) {
        if (!column(column) || run < 0 || run >= ofColumn(column, 1)) {
            return NO_SUCH;
        }
        return what < 0 || what > 2 ? BAD_VALUE : runs(columns[column]).get(run)[what];
    }

    int value(int column, int row) {
        return column(column) && row >= 0 && row < columns[column].length ? columns[column][row] : NO_SUCH;
    }

    int find(int column, int value, int rank) {
        if (!column(column)) {
            return NO_SUCH;
        }
        if (value < 0 || value > 9 || rank < 0) {
            return BAD_VALUE;
        }
        int before = 0;
        for (int row = 0; row < columns[column].length; row++) {
            if (columns[column][row] == value && before++ == rank) {
                return row;
            }
        }
        return NONE;
    }

    int ofColumn(int column, int what) {
        if (!column(column)) {
            return NO_SUCH;
        }
        int[] rows = columns[column];
        int[] sorted = rows.clone();
        Arrays.sort(sorted);
        switch (what) {
            case 0: return rows.length;
            case 1: return runs(rows).size();
            case 2: return Arrays.stream(rows).sum();
            case 3: return runs(rows).stream().mapToInt(run -> run[1]).max().orElse(0);
            case 4: return Arrays.stream(rows).map(value -> 1 << value).reduce(0, (a, b) -> a | b);
            case 5: return Arrays.equals(rows, sorted) ? 1 : 0;
            case 6:
                for (int row = 0; row < rows.length; row++) {
                    if (rows[row] != sorted[rows.length - 1 - row]) {
                        return 0;
                    }
                }
                return 1;
            default: return BAD_VALUE;
        }
    }

    int group(int column, int value, int what) {
        if (!column(column)) {
            return NO_SUCH;
        }
        if (value < 0 || value > 9 || what < 0 || what > 2) {
            return BAD_VALUE;
        }
        int[] lengths = runs(columns[column]).stream().filter(run -> run[0] == value).mapToInt(run -> run[1]).toArray();
        return what == 0 ? Arrays.stream(lengths).sum() : what == 1 ? lengths.length : Arrays.stream(lengths).max().orElse(0);
    }

    int count(int what) {
        switch (what) {
            case 0: return Arrays.stream(columns).mapToInt(rows -> rows.length).sum();
            case 1: return Arrays.stream(columns).mapToInt(rows -> runs(rows).size()).sum();
            case 2: return pad.length();
            case 3: return history.size();
            default: return BAD_VALUE;
        }
    }

    private List<int[]> pairs(int one, int other) {
        List<int[]> pairs = new ArrayList<>();
        for (int row = 0; value(one, row) >= 0 && value(other, row) >= 0; row++) {
            pairs.add(new int[] {value(one, row), value(other, row)});
        }
        return pairs;
    }

    private List<int[]> runsOfPairs(int one, int other) {
        return runs(pairs(one, other).stream().mapToInt(pair -> pair[0] * 10 + pair[1]).toArray());
    }

    int pair(int one, int other, int pair, int what) {
        if (!column(one) || !column(other) || pair < 0 || pair >= runsOfPairs(one, other).size()) {
            return NO_SUCH;
        }
        int[] run = runsOfPairs(one, other).get(pair);
        switch (what) {
            case 0: return run[0] / 10;
            case 1: return run[0] % 10;
            case 2: return run[1];
            case 3: return run[2];
            default: return BAD_VALUE;
        }
    }

    int joined(int one, int other, int what) {
        if (!column(one) || !column(other)) {
            return NO_SUCH;
        }
        List<int[]> pairs = pairs(one, other);
        switch (what) {
            case 0: return pairs.size();
            case 1: return runsOfPairs(one, other).size();
            case 2: return (int) pairs.stream().filter(pair -> pair[0] == pair[1]).count();
            case 3: return pairs.stream().mapToInt(pair -> pair[0] * pair[1]).sum();
            case 4:
                Set<Integer> seen = new HashSet<>();
                pairs.forEach(pair -> seen.add(pair[0] * 10 + pair[1]));
                return seen.size();
            default: return BAD_VALUE;
        }
    }

    int alike(int one, int other) {
        if (!column(one) || !column(other)) {
            return NO_SUCH;
        }
        int many = 0;
        for (int left : columns[one]) {
            for (int right : columns[other]) {
                if (left == right) {
                    many++;
                }
            }
        }
        return many;
    }

    int saves(int column) {
        if (!column(column)) {
            return NO_SUCH;
        }
        int[] sorted = columns[column].clone();
        Arrays.sort(sorted);
        return runs(columns[column]).size() - runs(sorted).size();
    }

    int bestSet(int column, int value, int what) {
        if (!column(column)) {
            return NO_SUCH;
        }
        if (value < 0 || value > 9 || what < 0 || what > 1) {
            return BAD_VALUE;
        }
        int best = NONE;
        int fewest = Integer.MAX_VALUE;
        int[] rows = columns[column].clone();
        for (int row = 0; row < rows.length; row++) {
            int previous = rows[row];
            rows[row] = value;
            int many = 1;
            for (int k = 1; k < rows.length; k++) {
                many += rows[k] != rows[k - 1] ? 1 : 0;
            }
            rows[row] = previous;
            if (many < fewest) {
                fewest = many;
                best = row;
            }
        }
        return best == NONE || what == 0 ? best : fewest;
    }

    int put(long characters) {
        StringBuilder text = new StringBuilder();
        boolean begun = false;
        for (int shift = 56; shift >= 0; shift -= 8) {
            int code = (int) (characters >> shift & 255);
            if (code == 0 && !begun) {
                continue;
            }
            begun = true;
            if (code < 33 || code > 126) {
                return BAD_VALUE;
            }
            text.append((char) code);
        }
        if (!begun) {
            return BAD_VALUE;
        }
        if (pad.length() + text.length() > 80) {
            return TOO_MANY;
        }
        pad += text;
        return pad.length();
    }

    int wipe() {
        int length = pad.length();
        pad = "";
        return length;
    }

    /** A text goes on well up to where no longer text can begin like it. */
    int fault() {
        for (int length = 1; length <= pad.length(); length++) {
            Matcher matcher = TEXT.matcher(pad.substring(0, length));
            if (!matcher.matches() && !matcher.hitEnd()) {
                return length - 1;
            }
        }
        return TEXT.matcher(pad).matches() ? NONE : pad.length();
    }

    int carryOut() {
        if (fault() != NONE) {
            return BAD_TEXT;
        }
        record();
        inText = true;
        int many = 0;
        for (String order : pad.split(";")) {
            if (obey(order) < 0) {
                break;
            }
            many++;
        }
        inText = false;
        pad = "";
        return many;
    }

    private int obey(String order) {
        int column = order.charAt(0) - '0';
        String[] parts = order.substring(Math.min(2, order.length())).split("[*=]");
        switch (order.charAt(1)) {
            case '!': return sort(column);
            case '-': return remove(column, Integer.parseInt(parts[0]), Integer.parseInt(parts[1]));
            case '@': return set(column, Integer.parseInt(parts[0]), Integer.parseInt(parts[1]));
            default:
                int[] rows = order.charAt(1) == '=' ? new int[0] : columns[column];
                for (String run : order.substring(2).split(",")) {
                    int length = run.length() == 1 ? 1 : Integer.parseInt(run.substring(2));
                    if (length == 0) {
                        return BAD_VALUE;
                    }
                    rows = concat(rows, filled(run.charAt(0) - '0', length));
                }
                return take(column, rows);
        }
    }

    int undo() {
        if (history.isEmpty()) {
            return NOT_POSSIBLE;
        }
        columns = history.remove(history.size() - 1);
        return history.size();
    }

    int save(int slot) {
        if (slot != 0 && slot != 1) {
            return BAD_VALUE;
        }
        slots[slot] = columns;
        return count(1);
    }

    int restore(int slot) {
        if (slot != 0 && slot != 1) {
            return BAD_VALUE;
        }
        if (slots[slot] == null) {
            return NOT_POSSIBLE;
        }
        record();
        columns = slots[slot];
        return count(1);
    }
}
