/** Promises 1 to 8: every sentence that names a boundary. */
final class ChangesBoundaries {
    private static final int MAX = Integer.MAX_VALUE, MIN = Integer.MIN_VALUE;

    private ChangesBoundaries() {
    }

    static void all() {
        Sentences.chapter("Texts");
        Sentences.noPromise("Ahead of the calls `append`, `insert`, `remove`, `set`, `sort`, `turn`, `merge` the interface says: ---- changes.");
        newObject();
        append();
        appendErrors();
        insert();
        insertErrors();
        remove();
        removeErrors();
        set();
        setErrors();
        sort();
        turn();
        merge();
        mergeErrors();
    }

    /** Columns 0 and 1 have 41 rows, and the smaller ones of them 41 runs. */
    static JoinedRuns mergeOf41() {
        return toMerge("1=9*40,0");
    }

    /** Columns 0 and 1 have 41 rows, and the smaller ones of them 40 runs. */
    static JoinedRuns mergeOf40() {
        return toMerge("1=9*39,0*2");
    }

    private static JoinedRuns toMerge(String other) {
        JoinedRuns x = Made.runs(40, 1);
        x.append(0, 2, 1);
        Checks.carryOut(x, other);
        return x;
    }

    private static void newObject() {
        Sentences.chapter("Promise 1: A new object");
        Sentences.sentence("Creates four empty columns.", () -> {
            Checks.due("look", Checks.look(new JoinedRuns()), " |  |  |  | rows 0 pad 0 fault 0 undo 0");
            JoinedRuns x = new JoinedRuns();
            for (int column = 0; column < 4; column++) {
                Checks.all("column " + column, new int[] {x.ofColumn(column, 0), x.ofColumn(column, 1), x.ofColumn(column, 2),
                    x.ofColumn(column, 3), x.ofColumn(column, 4), x.ofColumn(column, 5), x.ofColumn(column, 6)}, 0, 0, 0, 0, 0, 1, 1);
                Checks.all("its runs and rows", new int[] {x.run(column, 0, 0), x.value(column, 0), x.find(column, 0, 0),
                    x.group(column, 0, 0), x.saves(column), x.bestSet(column, 0, 0)}, -1, -1, -6, 0, 0, -6);
                Checks.all("its joins", new int[] {x.pair(column, 0, 0, 0), x.joined(column, 0, 0), x.joined(column, 3, 1),
                    x.alike(column, column)}, -1, 0, 0, 0);
            }
            Checks.all("columns 4 and -1", new int[] {x.ofColumn(4, 0), x.ofColumn(-1, 0)}, -1, -1);
            Checks.all("what can be undone, restored", new int[] {x.undo(), x.restore(0), x.restore(1), x.wipe()}, -5, -5, -5, 0);
        });
        Sentences.sentence("four empty columns", () -> {
            Made.withAll();
            Checks.due("a new object beside another one", Checks.look(new JoinedRuns()), " |  |  |  | rows 0 pad 0 fault 0 undo 0");
            Checks.due("its slot", new JoinedRuns().restore(0), -5);
        });
    }

    private static void append() {
        Sentences.chapter("Promise 2: append");
        Sentences.sentence("Rows come behind a column.", () -> {
            JoinedRuns x = new JoinedRuns();
            Checks.due("to an empty column", x.append(3, 5, 1), 1);
            Checks.due("runs", Checks.columns(x), " |  |  | 5");
            Checks.due("like the last run", x.append(3, 5, 2), 3);
            Checks.due("runs", Checks.columns(x), " |  |  | 5*3");
            Checks.due("unlike the last run", x.append(3, 0, 1), 4);
            Checks.due("runs", Checks.columns(x), " |  |  | 5*3,0");
            Checks.due("like a run ahead of the last one", x.append(3, 5, 995), 999);
            Checks.due("runs", Checks.columns(x), " |  |  | 5*3,0,5*995");
        });
        Sentences.sentence("This is a change.", () -> Boundary.isChange("append(0, 6, 2)", x -> x.append(0, 6, 2)));
        Sentences.sentence("`value`: 0 to 9", () -> {
            JoinedRuns x = new JoinedRuns();
            Checks.all("values 0 and 9", new int[] {x.append(0, 0, 1), x.append(0, 9, 1)}, 1, 2);
            Checks.due("runs", Checks.runs(x, 0), "0,9");
            Boundary.refusedFor(Boundary.outside(0, 9), "append(0, %d, 1)", Made::withAll, (y, value) -> y.append(0, value, 1), -2);
        });
        Sentences.sentence("`length`: 1 to 999", () -> {
            Checks.due("length 1", new JoinedRuns().append(0, 3, 1), 1);
            Checks.due("length 999", new JoinedRuns().append(0, 3, 999), 999);
            Boundary.refusedFor(Boundary.outside(1, 999), "append(0, 1, %d)", Made::withAll, (y, length) -> y.append(0, 1, length), -2);
            Boundary.refusedFor(Boundary.outside(1, 999), "append(3, 1, %d)", Made::withAll, (y, length) -> y.append(3, 1, length), -2);
        });
        Sentences.sentence("Returns how many rows the column has then", () -> {
            JoinedRuns x = new JoinedRuns();
            x.append(1, 1, 7);
            Checks.all("rows of one column alone", new int[] {x.append(0, 1, 1), x.append(0, 1, 997), x.append(0, 2, 1)}, 1, 998, 999);
        });
    }

    private static void appendErrors() {
        Sentences.sentence("NO_SUCH if there is no such column", () -> {
            JoinedRuns x = new JoinedRuns();
            Checks.all("columns 0 and 3", new int[] {x.append(0, 1, 1), x.append(3, 1, 1)}, 1, 1);
            Boundary.refusedFor(Boundary.outside(0, 3), "append(%d, 1, 1)", Made::withAll, (y, column) -> y.append(column, 1, 1), -1);
        });
        Sentences.sentence("BAD_VALUE if value or length is out of range", () -> {
            Boundary.refused("both out of range", Made::withAll, x -> x.append(0, 10, 0), -2);
            Boundary.refused("value alone, with all columns full", Made::fullOfBoth, x -> x.append(0, -1, 1), -2);
            Boundary.refused("length alone, with all columns full", Made::fullOfBoth, x -> x.append(0, 2, 1000), -2);
        });
        Sentences.sentence("TOO_MANY as told.", () -> {
            Checks.due("999 rows", Made.rows(500).append(0, 5, 499), 999);
            Boundary.refused("1000 rows", () -> Made.rows(500), x -> x.append(0, 5, 500), -4);
            Boundary.refused("1000 rows", Made::fullOfRows, x -> x.append(0, 5, 1), -4);
            Checks.due("40 runs", Made.runs(39, 1).append(0, 2, 1), 40);
            Boundary.refused("41 runs", Made::fullOfRuns, x -> x.append(0, 1, 1), -4);
            Checks.due("40 runs and 999 rows, the last run grows", Made.fullOfRuns().append(0, 2, 879), 999);
            Boundary.refused("40 runs and 1000 rows", Made::fullOfRuns, x -> x.append(0, 2, 880), -4);
        });
    }

    private static void insert() {
        Sentences.chapter("Promise 3: insert");
        Sentences.sentence("Rows come ahead of a row of a column (behind all, if row is how many there are).", () -> {
            JoinedRuns x = new JoinedRuns();
            Checks.due("into an empty column", x.insert(2, 0, 5, 2), 1);
            Checks.due("ahead of all", x.insert(2, 0, 6, 1), 2);
            Checks.due("behind all", x.insert(2, 3, 7, 1), 3);
            Checks.due("ahead of the last row", x.insert(2, 3, 8, 1), 4);
            Checks.due("ahead of the second row", x.insert(2, 1, 4, 1), 5);
            Checks.due("in the midst of a run", x.insert(2, 3, 0, 2), 7);
            Checks.due("runs", Checks.columns(x), " |  | 6,4,5,0*2,5,8,7 | ");
            Checks.due("ahead of a run, like the one before it", x.insert(2, 3, 5, 1), 7);
            Checks.due("ahead of a run of its value", x.insert(2, 4, 0, 1), 7);
            Checks.due("behind all, like the last run", x.insert(2, 10, 7, 1), 7);
            Checks.due("runs", Checks.columns(x), " |  | 6,4,5*2,0*3,5,8,7*2 | ");
        });
        Sentences.sentence("This is a change.", () -> Boundary.isChange("insert(0, 2, 6, 2)", x -> x.insert(0, 2, 6, 2)));
        Sentences.sentence("`row`: 0 to how many rows there are", () -> {
            Checks.due("row 0", Made.withAll().insert(0, 0, 5, 1), 6);
            Checks.due("row 10 of 10 rows", Made.withAll().insert(0, 10, 5, 1), 6);
            Checks.due("row 0 of none", Made.withAll().insert(3, 0, 5, 1), 1);
            Checks.due("row 998 of 998 rows", Made.rows(998).insert(0, 998, 6, 1), 2);
            Boundary.refused("row 999 of 999 rows is one", Made::fullOfRows, x -> x.insert(0, 999, 6, 1), -4);
            Boundary.refused("row 1000 of 999 rows is none", Made::fullOfRows, x -> x.insert(0, 1000, 6, 1), -2);
            Boundary.refusedFor(Boundary.outside(0, 10), "insert(0, %d, 1, 1)", Made::withAll, (y, row) -> y.insert(0, row, 1, 1), -2);
            Boundary.refusedFor(Boundary.outside(0, 0), "insert(3, %d, 1, 1)", Made::withAll, (y, row) -> y.insert(3, row, 1, 1), -2);
        });
        Sentences.sentence("`value`: 0 to 9", () -> {
            JoinedRuns x = new JoinedRuns();
            Checks.all("values 0 and 9", new int[] {x.insert(0, 0, 0, 1), x.insert(0, 0, 9, 1)}, 1, 2);
            Checks.due("runs", Checks.runs(x, 0), "9,0");
            Boundary.refusedFor(Boundary.outside(0, 9), "insert(0, 0, %d, 1)", Made::withAll, (y, value) -> y.insert(0, 0, value, 1), -2);
        });
        Sentences.sentence("`length`: 1 to 999", () -> {
            Checks.due("length 1", new JoinedRuns().insert(0, 0, 3, 1), 1);
            JoinedRuns x = new JoinedRuns();
            Checks.all("length 999", new int[] {x.insert(0, 0, 3, 999), x.ofColumn(0, 0)}, 1, 999);
            Boundary.refusedFor(Boundary.outside(1, 999), "insert(0, 3, 1, %d)", Made::withAll, (y, length) -> y.insert(0, 3, 1, length), -2);
            Boundary.refusedFor(Boundary.outside(1, 999), "insert(3, 0, 1, %d)", Made::withAll, (y, length) -> y.insert(3, 0, 1, length), -2);
        });
        Sentences.sentence("Returns how many runs the column has then", () -> {
            JoinedRuns x = Made.withAll();
            Checks.all("runs of one column alone", new int[] {x.insert(3, 0, 1, 5), x.insert(3, 2, 1, 5), x.insert(3, 2, 2, 5)}, 1, 1, 3);
            Checks.due("up to 40", Made.runs(39, 2).insert(0, 0, 3, 1), 40);
        });
    }

    private static void insertErrors() {
        Sentences.sentence("NO_SUCH if there is no such column", () -> {
            JoinedRuns x = new JoinedRuns();
            Checks.all("columns 0 and 3", new int[] {x.insert(0, 0, 1, 1), x.insert(3, 0, 1, 1)}, 1, 1);
            Boundary.refusedFor(Boundary.outside(0, 3), "insert(%d, 0, 1, 1)", Made::withAll, (y, column) -> y.insert(column, 0, 1, 1), -1);
        });
        Sentences.sentence("BAD_VALUE if another argument is out of range", () -> {
            Boundary.refused("all of them", Made::withAll, x -> x.insert(0, 11, 10, 1000), -2);
            Boundary.refused("row alone, with a full column", Made::fullOfBoth, x -> x.insert(0, MAX, 1, 1), -2);
            Boundary.refused("value alone, with a full column", Made::fullOfBoth, x -> x.insert(0, 0, MIN, 1), -2);
            Boundary.refused("length alone, with a full column", Made::fullOfBoth, x -> x.insert(0, 0, 1, 0), -2);
        });
        Sentences.sentence("TOO_MANY as told.", () -> {
            Checks.due("999 rows", Made.rows(500).insert(0, 250, 5, 499), 1);
            Boundary.refused("1000 rows", () -> Made.rows(500), x -> x.insert(0, 250, 5, 500), -4);
            Boundary.refused("1000 rows", () -> Made.rows(500), x -> x.insert(0, 500, 6, 500), -4);
            Checks.due("40 runs, one more ahead of 39", Made.runs(39, 1).insert(0, 0, 2, 1), 40);
            Boundary.refused("41 runs, one more ahead of 40", Made::fullOfRuns, x -> x.insert(0, 0, 2, 1), -4);
            Boundary.refused("41 runs, one more behind 40", Made::fullOfRuns, x -> x.insert(0, 120, 1, 1), -4);
            Boundary.refused("42 runs, one cut in the midst", Made::fullOfRuns, x -> x.insert(0, 118, 1, 1), -4);
            Boundary.refused("42 runs, the first one cut", Made::fullOfRuns, x -> x.insert(0, 1, 2, 1), -4);
            Checks.due("40 runs, one grows in the midst", Made.fullOfRuns().insert(0, 118, 2, 1), 40);
            Checks.due("40 runs, one grows at its border", Made.fullOfRuns().insert(0, 117, 2, 1), 40);
            Checks.due("40 runs, one grows behind", Made.fullOfRuns().insert(0, 117, 1, 1), 40);
            Checks.due("40 runs and 999 rows", Made.fullOfRuns().insert(0, 60, 1, 879), 40);
            Boundary.refused("40 runs and 1000 rows", Made::fullOfRuns, x -> x.insert(0, 60, 1, 880), -4);
        });
    }

    private static void remove() {
        Sentences.chapter("Promise 4: remove");
        Sentences.sentence("Takes rows out of a column.", () -> {
            JoinedRuns x = Checks.of("0=1*3,2,1*2,3*4;1=7");
            Checks.due("the last row", x.remove(0, 9, 1), 4);
            Checks.due("the first row", x.remove(0, 0, 1), 4);
            Checks.due("runs", Checks.columns(x), "1*2,2,1*2,3*3 | 7 |  | ");
            Checks.due("a run whole, between two alike", x.remove(0, 2, 1), 2);
            Checks.due("runs", Checks.columns(x), "1*4,3*3 | 7 |  | ");
            Checks.due("over a border", x.remove(0, 3, 2), 2);
            Checks.due("runs", Checks.columns(x), "1*3,3*2 | 7 |  | ");
            Checks.due("from row 0 to the last", x.remove(0, 0, 5), 0);
            Checks.due("runs", Checks.columns(x), " | 7 |  | ");
        });
        Sentences.sentence("This is a change.", () -> Boundary.isChange("remove(0, 1, 3)", x -> x.remove(0, 1, 3)));
        Sentences.sentence("`many`: 1 or more", () -> {
            JoinedRuns x = Made.fullOfBoth();
            Checks.all("1, and 998 more", new int[] {x.remove(0, 998, 1), x.remove(0, 0, 998), x.ofColumn(0, 0)}, 40, 0, 0);
            Checks.due("999", Made.fullOfBoth().remove(0, 0, 999), 0);
            Checks.due("1 of 1", Made.rows(1).remove(0, 0, 1), 0);
        });
        Sentences.sentence("Returns how many runs the column has then", () -> {
            JoinedRuns x = Made.fullOfRuns();
            Checks.due("40, a run shorter", x.remove(0, 0, 2), 40);
            Checks.due("39, the first run less", x.remove(0, 0, 1), 39);
            Checks.due("37, one less that parted two alike", x.remove(0, 3, 3), 37);
            Checks.due("36, the last run less", x.remove(0, 111, 3), 36);
            Checks.due("none", x.remove(0, 0, 111), 0);
        });
    }

    private static void removeErrors() {
        Sentences.sentence("NO_SUCH if there is no such column or row", () -> {
            JoinedRuns x = Checks.of("0=1;3=1,2");
            Checks.all("columns 0 and 3", new int[] {x.remove(0, 0, 1), x.remove(3, 1, 1)}, 0, 1);
            Boundary.refusedFor(Boundary.outside(0, 3), "remove(%d, 0, 1)", Made::withAll, (y, column) -> y.remove(column, 0, 1), -1);
            Checks.due("the last row", Made.withAll().remove(0, 9, 1), 5);
            Boundary.refusedFor(Boundary.outside(0, 9), "remove(0, %d, 1)", Made::withAll, (y, row) -> y.remove(0, row, 1), -1);
            Boundary.refused("a row of an empty column", Made::withAll, y -> y.remove(3, 0, 1), -1);
            Boundary.refused("row 999 of 999", Made::fullOfRows, y -> y.remove(0, 999, 1), -1);
            Checks.due("row 998 of 999", Made.fullOfRows().remove(0, 998, 1), 1);
        });
        Sentences.sentence("BAD_VALUE if many is below 1", () -> {
            int[] below = {0, -1, -10, MIN, MIN + 1};
            Boundary.refusedFor(below, "remove(0, 9, %d)", Made::withAll, (y, many) -> y.remove(0, 9, many), -2);
            Boundary.refusedFor(below, "remove(0, 0, %d)", Made::withAll, (y, many) -> y.remove(0, 0, many), -2);
        });
        Sentences.sentence("NOT_POSSIBLE if there are not so many rows from that one on.", () -> {
            Checks.due("10 of 10 rows", Made.withAll().remove(0, 0, 10), 0);
            Boundary.refused("11 of 10 rows", Made::withAll, x -> x.remove(0, 0, 11), -5);
            Checks.due("1 from the last row on", Made.withAll().remove(0, 9, 1), 5);
            Boundary.refused("2 from the last row on", Made::withAll, x -> x.remove(0, 9, 2), -5);
            Checks.due("5 from row 5 on", Made.withAll().remove(0, 5, 5), 4);
            Boundary.refused("6 from row 5 on", Made::withAll, x -> x.remove(0, 5, 6), -5);
            Boundary.refused("1000 of 999 rows", Made::fullOfRows, x -> x.remove(0, 0, 1000), -5);
            Boundary.refused("the greatest int from row 0 on", Made::withAll, x -> x.remove(0, 0, MAX), -5);
            Boundary.refused("the greatest int from row 9 on, where a sum would wrap around", Made::withAll, x -> x.remove(0, 9, MAX), -5);
        });
    }

    private static void set() {
        Sentences.chapter("Promise 5: set");
        Sentences.sentence("Changes the value of a row.", () -> {
            JoinedRuns x = Checks.of("0=1*4;1=2;2=3*2,4,3*2");
            Checks.due("the first row", x.set(0, 0, 9), 1);
            Checks.due("the last row", x.set(0, 3, 8), 1);
            Checks.due("the only row", x.set(1, 0, 0), 2);
            Checks.due("a row between two alike", x.set(2, 2, 3), 4);
            Checks.due("columns", Checks.columns(x), "9,1*2,8 | 0 | 3*5 | ");
            Checks.due("a row in the midst", x.set(2, 1, 5), 3);
            Checks.due("the end of a run, like the next one", x.set(2, 0, 5), 3);
            Checks.due("the end of a run, like none", x.set(2, 1, 6), 5);
            Checks.due("a row's own value", x.set(2, 4, 3), 3);
            Checks.due("columns", Checks.columns(x), "9,1*2,8 | 0 | 5,6,3*3 | ");
        });
        Sentences.sentence("This is a change.", () -> Boundary.isChange("set(0, 1, 7)", x -> x.set(0, 1, 7)));
        Sentences.sentence("`value`: 0 to 9", () -> {
            JoinedRuns x = Made.withAll();
            Checks.all("values 0 and 9", new int[] {x.set(0, 1, 0), x.set(0, 9, 9), x.value(0, 1), x.value(0, 9)}, 1, 4, 0, 9);
            Boundary.refusedFor(Boundary.outside(0, 9), "set(0, 3, %d)", Made::withAll, (y, value) -> y.set(0, 3, value), -2);
        });
        Sentences.sentence("Returns the previous one", () -> {
            for (int value = 0; value <= 9; value++) {
                JoinedRuns x = new JoinedRuns();
                x.append(1, value, 3);
                Checks.due("set over " + value, x.set(1, 1, 9 - value), value);
                Checks.due("set back to " + value, x.set(1, 1, value), 9 - value);
            }
        });
    }

    private static void setErrors() {
        Sentences.sentence("NO_SUCH if there is no such column or row", () -> {
            JoinedRuns x = Checks.of("0=1;3=2");
            Checks.all("columns 0 and 3", new int[] {x.set(0, 0, 3), x.set(3, 0, 3)}, 1, 2);
            Boundary.refusedFor(Boundary.outside(0, 3), "set(%d, 0, 1)", Made::withAll, (y, column) -> y.set(column, 0, 1), -1);
            Boundary.refusedFor(Boundary.outside(0, 9), "set(0, %d, 1)", Made::withAll, (y, row) -> y.set(0, row, 1), -1);
            Boundary.refused("a row of an empty column", Made::withAll, y -> y.set(3, 0, 1), -1);
            Boundary.refused("row 999 of 999", Made::fullOfRows, y -> y.set(0, 999, 1), -1);
            Checks.due("row 998 of 999", Made.fullOfRows().set(0, 998, 1), 5);
        });
        Sentences.sentence("BAD_VALUE if value is out of range", () -> {
            Boundary.refused("10, with 40 runs", Made::fullOfRuns, x -> x.set(0, 1, 10), -2);
            Boundary.refused("-1, with 40 runs", Made::fullOfRuns, x -> x.set(0, 1, -1), -2);
        });
        Sentences.sentence("TOO_MANY as told.", () -> {
            Checks.due("40 runs, one of 38 cut", Made.runs(38, 3).set(0, 4, 1), 2);
            Boundary.refused("41 runs, one of 39 cut", () -> Made.runs(39, 3), x -> x.set(0, 4, 1), -4);
            Boundary.refused("42 runs, one of 40 cut", Made::fullOfRuns, x -> x.set(0, 4, 1), -4);
            Boundary.refused("42 runs, the last one cut", Made::fullOfRuns, x -> x.set(0, 118, 1), -4);
            Boundary.refused("41 runs, the last row", Made::fullOfRuns, x -> x.set(0, 119, 1), -4);
            Checks.due("40 runs, the last row of 39", Made.runs(39, 3).set(0, 116, 2), 1);
            Checks.due("40 runs, an end grows the neighbour", Made.fullOfRuns().set(0, 3, 1), 2);
            Checks.due("40 runs, a row's own value", Made.fullOfRuns().set(0, 4, 2), 2);
            Checks.due("40 runs of one row, one of another value", Made.runs(40, 1).set(0, 20, 3), 1);
            Checks.due("999 rows stay 999", Made.fullOfBoth().set(0, 24, 1), 2);
        });
    }

    private static void sort() {
        Sentences.chapter("Promise 6: sort");
        Sentences.sentence("Sorts a column by rising values.", () -> {
            JoinedRuns x = Checks.of("0=9,8,7,6,5,4,3,2,1,0,9;1=3*2,1,3,1*4;2=5*999");
            Checks.due("all values, from the greatest to the least", x.sort(0), 10);
            Checks.due("two values", x.sort(1), 2);
            Checks.due("one run", x.sort(2), 1);
            Checks.due("columns", Checks.columns(x), "0,1,2,3,4,5,6,7,8,9*2 | 1*5,3*3 | 5*999 | ");
            JoinedRuns full = Made.fullOfBoth();
            Checks.due("40 runs and 999 rows", full.sort(0), 2);
            Checks.due("columns", Checks.columns(full), "1*480,2*519 |  |  | ");
        });
        Sentences.sentence("This is a change.", () -> {
            Boundary.isChange("sort(1)", x -> x.sort(1));
            Boundary.isChange("sort of an empty column", x -> x.sort(3));
        });
        Sentences.sentence("Returns how many runs it has then", () -> {
            Checks.due("none", new JoinedRuns().sort(3), 0);
            Checks.due("one", Made.fullOfRows().sort(0), 1);
            Checks.due("ten", Checks.of("1=0,9,1,8,2,7,3,6,4,5,0,9").sort(1), 10);
        });
        Sentences.sentence("NO_SUCH if there is no such column.", () -> {
            JoinedRuns x = new JoinedRuns();
            Checks.all("columns 0 and 3", new int[] {x.sort(0), x.sort(3)}, 0, 0);
            Boundary.refusedFor(Boundary.outside(0, 3), "sort(%d)", Made::withAll, (y, column) -> y.sort(column), -1);
        });
    }

    private static void turn() {
        Sentences.chapter("Promise 7: turn");
        Sentences.sentence("A column becomes the rows of another one, in the opposite order.", () -> {
            JoinedRuns x = Checks.of("0=1*2,2,3*4;1=9;2=5*3");
            Checks.due("over one that has rows", x.turn(1, 0), 7);
            Checks.due("one of one run", x.turn(3, 2), 3);
            Checks.due("an empty one", x.turn(2, 2) + x.remove(2, 0, 3) + x.turn(0, 2), 3);
            Checks.due("columns", Checks.columns(x), " | 3*4,2,1*2 |  | 5*3");
            Checks.due("itself", x.turn(1, 1), 7);
            Checks.due("columns", Checks.columns(x), " | 1*2,2,3*4 |  | 5*3");
            JoinedRuns full = Made.fullOfBoth();
            Checks.due("40 runs and 999 rows", full.turn(3, 0), 999);
            Checks.all("its runs", new int[] {full.ofColumn(3, 1), full.run(3, 0, 0), full.run(3, 0, 1), full.run(3, 39, 1)}, 40, 2, 63, 24);
        });
        Sentences.sentence("This is a change.", () -> {
            Boundary.isChange("turn(3, 0)", x -> x.turn(3, 0));
            Boundary.isChange("turn of an empty column", x -> x.turn(3, 3));
        });
        Sentences.sentence("Returns how many rows it has then", () -> {
            JoinedRuns x = Made.withAll();
            Checks.all("of 0, 9, 10 rows", new int[] {x.turn(3, 3), x.turn(3, 1), x.turn(1, 0), x.turn(1, 1)}, 0, 9, 10, 10);
            Checks.due("of 999", Made.fullOfRows().turn(1, 0), 999);
        });
        Sentences.sentence("NO_SUCH if there is no such column.", () -> {
            JoinedRuns x = new JoinedRuns();
            Checks.all("columns 0 and 3", new int[] {x.turn(0, 3), x.turn(3, 0)}, 0, 0);
            Boundary.refusedFor(Boundary.outside(0, 3), "turn(%d, 0)", Made::withAll, (y, column) -> y.turn(column, 0), -1);
            Boundary.refusedFor(Boundary.outside(0, 3), "turn(0, %d)", Made::withAll, (y, from) -> y.turn(0, from), -1);
        });
    }

    private static void merge() {
        Sentences.chapter("Promise 8: merge");
        Sentences.sentence("A column becomes the smaller or the greater values of two columns joined by rows.", () -> {
            JoinedRuns x = Checks.of("0=0,9*2,5*3;1=9,0,9,5,4;2=7*999");
            Checks.due("the smaller ones, as many as the shorter one", x.merge(3, 0, 1, 0), 5);
            Checks.due("runs", Checks.runs(x, 3), "0*2,9,5,4");
            Checks.due("the greater ones", x.merge(3, 0, 1, 1), 5);
            Checks.due("runs", Checks.runs(x, 3), "9*3,5*2");
            Checks.due("with 999 rows", x.merge(3, 2, 2, 0), 999);
            Checks.due("runs", Checks.runs(x, 3), "7*999");
            Checks.due("into the one itself", x.merge(0, 0, 2, 0), 6);
            Checks.due("into the other itself", x.merge(1, 2, 1, 1), 5);
            Checks.due("of one column with itself", x.merge(2, 0, 0, 1), 6);
            Checks.due("columns", Checks.columns(x), "0,7*2,5*3 | 9,7,9,7*2 | 0,7*2,5*3 | 7*999");
        });
        Sentences.sentence("joined by rows.", () -> {
            for (int what = 0; what <= 2; what++) {
                JoinedRuns x = Made.withAll();
                Checks.due("with an empty one", x.merge(0, 0, 3, what), 0);
                Checks.due("rows", x.ofColumn(0, 0) + x.ofColumn(0, 1), 0);
                Checks.due("an empty one with another", x.merge(1, 3, 1, what), 0);
                Checks.due("an empty one with itself", x.merge(2, 3, 3, what), 0);
                Checks.due("columns", Checks.columns(x), " |  |  | ");
            }
        });
        Sentences.sentence("This is a change.", () -> {
            Boundary.isChange("merge(3, 0, 1, 0)", x -> x.merge(3, 0, 1, 0));
            Boundary.isChange("merge of empty columns", x -> x.merge(3, 3, 3, 2));
        });
        Sentences.sentence("`what`: 0 the smaller ones, 1 the greater ones, 2 those of the first one, where both are alike", () -> {
            JoinedRuns x = Checks.of("0=0,9,5,4*2;1=9,0,5,4,3");
            Checks.due("the smaller ones", x.merge(3, 0, 1, 0), 5);
            Checks.due("runs", Checks.runs(x, 3), "0*2,5,4,3");
            Checks.due("the greater ones", x.merge(3, 0, 1, 1), 5);
            Checks.due("runs", Checks.runs(x, 3), "9*2,5,4*2");
            Checks.due("those alike", x.merge(3, 0, 1, 2), 2);
            Checks.due("runs", Checks.runs(x, 3), "5,4");
            Boundary.refusedFor(Boundary.outside(0, 2), "merge(3, 0, 1, %d)", Made::withAll, (y, what) -> y.merge(3, 0, 1, what), -2);
        });
        Sentences.sentence("(rows in which they are not are left out)", () -> {
            JoinedRuns x = Checks.of("0=1,2,1,3,1*2,0;1=1,3,1,2,1,0*2");
            Checks.due("like rows on both sides of one that is left out", x.merge(2, 0, 1, 2), 4);
            Checks.due("runs", Checks.runs(x, 2), "1*3,0");
            Checks.due("none is left", Checks.of("0=1*9;1=2*9").merge(0, 0, 1, 2), 0);
            Checks.due("all are left", Made.fullOfBoth().merge(1, 0, 0, 2), 999);
        });
        Sentences.sentence("Returns how many rows it has then", () -> {
            JoinedRuns x = Made.withAll();
            Checks.all("of 9, 2, 1 rows", new int[] {x.merge(3, 0, 1, 1), x.merge(3, 3, 2, 0), x.merge(0, 3, 1, 2)}, 9, 2, 1);
            Checks.due("of none", x.merge(0, 0, 2, 2), 0);
        });
    }

    private static void mergeErrors() {
        Sentences.sentence("NO_SUCH if there is no such column", () -> {
            JoinedRuns x = new JoinedRuns();
            Checks.all("columns 0 and 3", new int[] {x.merge(0, 3, 0, 0), x.merge(3, 0, 3, 0)}, 0, 0);
            Boundary.refusedFor(Boundary.outside(0, 3), "merge(%d, 0, 1, 0)", Made::withAll, (y, column) -> y.merge(column, 0, 1, 0), -1);
            Boundary.refusedFor(Boundary.outside(0, 3), "merge(3, %d, 1, 1)", Made::withAll, (y, one) -> y.merge(3, one, 1, 1), -1);
            Boundary.refusedFor(Boundary.outside(0, 3), "merge(3, 0, %d, 2)", Made::withAll, (y, other) -> y.merge(3, 0, other, 2), -1);
        });
        Sentences.sentence("BAD_VALUE if what is out of range", () -> {
            Boundary.refused("3, of empty columns", JoinedRuns::new, x -> x.merge(0, 1, 2, 3), -2);
            Boundary.refused("-1, of 41 runs", ChangesBoundaries::mergeOf41, x -> x.merge(2, 0, 1, -1), -2);
        });
        Sentences.sentence("TOO_MANY as told.", () -> {
            JoinedRuns x = mergeOf40();
            Checks.all("40 runs", new int[] {x.merge(2, 0, 1, 0), x.ofColumn(2, 1)}, 41, 40);
            Boundary.refused("41 runs", ChangesBoundaries::mergeOf41, y -> y.merge(2, 0, 1, 0), -4);
            Boundary.refused("41 runs, into the one", ChangesBoundaries::mergeOf41, y -> y.merge(0, 0, 1, 0), -4);
            Boundary.refused("41 runs, into the other", ChangesBoundaries::mergeOf41, y -> y.merge(1, 1, 0, 0), -4);
            Checks.due("two runs of the same columns", mergeOf41().merge(2, 0, 1, 1), 41);
            Checks.due("none of 79 runs of pairs", Made.mostPairs().merge(2, 0, 1, 2), 0);
        });
    }
}
