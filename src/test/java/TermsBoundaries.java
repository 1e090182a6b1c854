/** "What it is", "The public face" and "Terms" without the joins and the texts: every sentence that names a boundary. */
final class TermsBoundaries {
    private static final int MAX = Integer.MAX_VALUE, MIN = Integer.MIN_VALUE;

    private TermsBoundaries() {
    }

    static void all() {
        whatItIs();
        errorCodes();
        orderOfErrorsOfChanges();
        orderOfErrorsOfQuestions();
        errorsOfChangesChangeNothing();
        errorsOfQuestionsChangeNothing();
        noneAndNumbers();
        columns();
        runs();
        tooManyRuns();
        tooManyRows();
    }

    private static void whatItIs() {
        Sentences.chapter("What it is");
        Sentences.noPromise("Columns of values that are kept as runs of like values and never unrolled: runs with lengths, rows that are "
            + "put in, taken out and changed so that runs are cut or grow together, columns joined row by row as runs of pairs, columns "
            + "joined by like values, groups by value, orders that runs keep, sorting, runs that would be saved, the value in a row, the "
            + "rows of a value, sums, columns that are read from texts, undo, and saved states.");
        Sentences.sentence("An object is used for at most 512 calls after it has been made", () -> {
            JoinedRuns x = new JoinedRuns();
            Checks.due("call 1", x.append(0, 1, 1), 1);
            for (int call = 2; call < 512; call += 2) {
                Checks.due("call " + call, x.append(0, 2, 1), 2);
                Checks.due("call " + (call + 1), x.undo(), 1);
            }
            Checks.due("call 512", x.ofColumn(0, 0), 1);
        });
        Sentences.sentence("at most 512 calls", () -> {
            JoinedRuns x = new JoinedRuns();
            for (int call = 1; call <= 505; call++) {
                Checks.due("call " + call, x.append(3, 7, 1), call);
            }
            for (int left = 5; left >= 0; left--) {
                Checks.due("undo, with so many states left", x.undo(), left);
            }
            Checks.due("call 512", x.value(3, 498), 7);
        });
        // Their answers are free, so none is compared; they end, and throw nothing.
        Sentences.sentence("what later calls answer is free.", () -> {
            JoinedRuns x = Made.fullOfRuns();
            for (int call = 41; call <= 600; call++) {
                x.append(0, 1 + call % 2, 1);
                x.put('0' + call % 2);
                x.merge(call % 4, 0, 1, call % 3);
            }
        });
    }

    private static void errorCodes() {
        Sentences.chapter("The public face");
        Sentences.sentence("public static final int NO_SUCH = -1, BAD_VALUE = -2, BAD_TEXT = -3, TOO_MANY = -4, NOT_POSSIBLE = -5, NONE = -6;",
            TermsBoundaries::constants);
        Sentences.sentence("public JoinedRuns();", () -> Checks.due("rows of a new one", new JoinedRuns().count(0), 0));
        Sentences.chapter("Texts");
        Sentences.sentence("The constants: `NO_SUCH = -1, BAD_VALUE = -2, BAD_TEXT = -3, TOO_MANY = -4, NOT_POSSIBLE = -5, NONE = -6`",
            TermsBoundaries::constants);
        Sentences.sentence("Error codes, and NONE: there is none.",
            () -> Checks.due("a row that there is none of", new JoinedRuns().find(0, 0, 0), JoinedRuns.NONE));
        Sentences.chapter("Terms");
        Sentences.noPromise("CONVENTIONS.");
        Sentences.noPromise("Columns, runs");
        Sentences.sentence("A method that fails returns one of the error codes NO_SUCH (-1), BAD_VALUE (-2), BAD_TEXT (-3), TOO_MANY (-4) "
            + "and NOT_POSSIBLE (-5)", () -> {
            Checks.due("no such column", new JoinedRuns().sort(4), -1);
            Checks.due("a bad value", new JoinedRuns().append(0, 10, 1), -2);
            Checks.due("a bad text", new JoinedRuns().carryOut(), -3);
            Checks.due("too many", Made.fullOfRows().append(0, 5, 1), -4);
            Checks.due("not possible", new JoinedRuns().undo(), -5);
        });
    }

    private static void constants() {
        Checks.due("NO_SUCH", JoinedRuns.NO_SUCH, -1);
        Checks.due("BAD_VALUE", JoinedRuns.BAD_VALUE, -2);
        Checks.due("BAD_TEXT", JoinedRuns.BAD_TEXT, -3);
        Checks.due("TOO_MANY", JoinedRuns.TOO_MANY, -4);
        Checks.due("NOT_POSSIBLE", JoinedRuns.NOT_POSSIBLE, -5);
        Checks.due("NONE", JoinedRuns.NONE, -6);
    }

    private static void orderOfErrorsOfChanges() {
        Sentences.sentence("it names its errors in the order in which they are checked", () -> {
            Boundary.refused("append: NO_SUCH ahead of BAD_VALUE", Made::withAll, x -> x.append(4, 10, 0), -1);
            Boundary.refused("append: BAD_VALUE ahead of TOO_MANY rows", Made::fullOfRows, x -> x.append(0, 10, 999), -2);
            Boundary.refused("append: BAD_VALUE of the length ahead of TOO_MANY rows", Made::fullOfRows, x -> x.append(0, 5, 1000), -2);
            Boundary.refused("append: BAD_VALUE ahead of TOO_MANY runs", Made::fullOfRuns, x -> x.append(0, -1, 1), -2);
            Boundary.refused("insert: NO_SUCH ahead of BAD_VALUE", Made::withAll, x -> x.insert(-1, -1, -1, -1), -1);
            Boundary.refused("insert: BAD_VALUE of the row ahead of TOO_MANY rows", Made::fullOfRows, x -> x.insert(0, 1000, 5, 1), -2);
            Boundary.refused("insert: BAD_VALUE of the value ahead of TOO_MANY rows", Made::fullOfRows, x -> x.insert(0, 0, 10, 1), -2);
            Boundary.refused("insert: BAD_VALUE of the length ahead of TOO_MANY rows", Made::fullOfRows, x -> x.insert(0, 0, 5, 1000), -2);
            Boundary.refused("insert: BAD_VALUE ahead of TOO_MANY runs", Made::fullOfRuns, x -> x.insert(0, -1, 5, 1), -2);
            Boundary.refused("remove: NO_SUCH of the column ahead of BAD_VALUE", Made::withAll, x -> x.remove(4, 0, 0), -1);
            Boundary.refused("remove: NO_SUCH of the row ahead of BAD_VALUE", Made::withAll, x -> x.remove(0, 10, 0), -1);
            Boundary.refused("remove: NO_SUCH of the row ahead of NOT_POSSIBLE", Made::withAll, x -> x.remove(0, -1, 99), -1);
            Boundary.refused("remove: NO_SUCH of a row of an empty column", Made::withAll, x -> x.remove(3, 0, 0), -1);
            Boundary.refused("set: NO_SUCH of the column ahead of BAD_VALUE", Made::withAll, x -> x.set(4, 0, 10), -1);
            Boundary.refused("set: NO_SUCH of the row ahead of BAD_VALUE", Made::withAll, x -> x.set(0, 10, 10), -1);
            Boundary.refused("set: BAD_VALUE ahead of TOO_MANY", Made::fullOfRuns, x -> x.set(0, 1, 10), -2);
        });
        Sentences.sentence("and the first one that applies is returned.", () -> {
            Boundary.refused("merge: NO_SUCH of the column ahead of BAD_VALUE", Made::withAll, x -> x.merge(4, 0, 1, 3), -1);
            Boundary.refused("merge: NO_SUCH of the one ahead of BAD_VALUE", Made::withAll, x -> x.merge(0, 4, 1, 3), -1);
            Boundary.refused("merge: NO_SUCH of the other ahead of BAD_VALUE", Made::withAll, x -> x.merge(0, 1, 4, -1), -1);
            Boundary.refused("merge: BAD_VALUE ahead of TOO_MANY", ChangesBoundaries::mergeOf41, x -> x.merge(2, 0, 1, 3), -2);
            Boundary.refused("put: BAD_VALUE ahead of TOO_MANY", () -> Made.pad(80), x -> x.put(' '), -2);
            Boundary.refused("put: BAD_VALUE of no character ahead of TOO_MANY", () -> Made.pad(80), x -> x.put(0), -2);
            Boundary.refused("restore: BAD_VALUE ahead of NOT_POSSIBLE", JoinedRuns::new, x -> x.restore(2), -2);
            Boundary.refused("restore: BAD_VALUE ahead of NOT_POSSIBLE", JoinedRuns::new, x -> x.restore(-1), -2);
            Boundary.refused("carryOut: BAD_TEXT ahead of what an order would answer", () -> {
                JoinedRuns x = Made.fullOfRows();
                Checks.write(x, "0+1;0=2;");
                return x;
            }, JoinedRuns::carryOut, -3);
        });
    }

    private static void orderOfErrorsOfQuestions() {
        Sentences.sentence("the first one that applies is returned", () -> {
            Boundary.refused("run: NO_SUCH of the column ahead of BAD_VALUE", Made::withAll, x -> x.run(4, 0, 3), -1);
            Boundary.refused("run: NO_SUCH of the run ahead of BAD_VALUE", Made::withAll, x -> x.run(0, 5, 3), -1);
            Boundary.refused("run: NO_SUCH of a run below 0 ahead of BAD_VALUE", Made::withAll, x -> x.run(0, -1, -1), -1);
            Boundary.refused("run: NO_SUCH of a run of an empty column", Made::withAll, x -> x.run(3, 0, 3), -1);
            Boundary.refused("find: NO_SUCH ahead of BAD_VALUE", Made::withAll, x -> x.find(4, 10, -1), -1);
            Boundary.refused("ofColumn: NO_SUCH ahead of BAD_VALUE", Made::withAll, x -> x.ofColumn(4, 7), -1);
            Boundary.refused("group: NO_SUCH ahead of BAD_VALUE", Made::withAll, x -> x.group(-1, 10, 3), -1);
            Boundary.refused("pair: NO_SUCH of the one ahead of BAD_VALUE", Made::withAll, x -> x.pair(4, 0, 0, 4), -1);
            Boundary.refused("pair: NO_SUCH of the other ahead of BAD_VALUE", Made::withAll, x -> x.pair(0, 4, 0, 4), -1);
            Boundary.refused("pair: NO_SUCH of the pair ahead of BAD_VALUE", Made::withAll, x -> x.pair(0, 0, 5, 4), -1);
            Boundary.refused("pair: NO_SUCH of a pair below 0 ahead of BAD_VALUE", Made::withAll, x -> x.pair(0, 1, -1, -1), -1);
            Boundary.refused("pair: NO_SUCH of a pair with an empty column", Made::withAll, x -> x.pair(0, 3, 0, 4), -1);
            Boundary.refused("joined: NO_SUCH of the one ahead of BAD_VALUE", Made::withAll, x -> x.joined(4, 0, 5), -1);
            Boundary.refused("joined: NO_SUCH of the other ahead of BAD_VALUE", Made::withAll, x -> x.joined(0, -1, -1), -1);
            Boundary.refused("bestSet: NO_SUCH ahead of BAD_VALUE", Made::withAll, x -> x.bestSet(4, 10, 2), -1);
        });
    }

    private static void errorsOfChangesChangeNothing() {
        Sentences.sentence("A call that returns an error changes nothing.", () -> {
            Boundary.refused("append(4, 1, 1)", Made::withAll, x -> x.append(4, 1, 1), -1);
            Boundary.refused("append(0, 10, 1)", Made::withAll, x -> x.append(0, 10, 1), -2);
            Boundary.refused("append(0, 1, 0)", Made::withAll, x -> x.append(0, 1, 0), -2);
            Boundary.refused("append(0, 4, 990) behind 10 rows", Made::withAll, x -> x.append(0, 4, 990), -4);
            Boundary.refused("append(0, 1, 990) behind 10 rows", Made::withAll, x -> x.append(0, 1, 990), -4);
            Boundary.refused("insert(4, 0, 1, 1)", Made::withAll, x -> x.insert(4, 0, 1, 1), -1);
            Boundary.refused("insert(0, 11, 1, 1)", Made::withAll, x -> x.insert(0, 11, 1, 1), -2);
            Boundary.refused("insert(0, 5, 4, 990)", Made::withAll, x -> x.insert(0, 5, 4, 990), -4);
            Boundary.refused("remove(4, 0, 1)", Made::withAll, x -> x.remove(4, 0, 1), -1);
            Boundary.refused("remove(0, 10, 1)", Made::withAll, x -> x.remove(0, 10, 1), -1);
            Boundary.refused("remove(0, 0, 0)", Made::withAll, x -> x.remove(0, 0, 0), -2);
            Boundary.refused("remove(0, 0, 11)", Made::withAll, x -> x.remove(0, 0, 11), -5);
            Boundary.refused("set(0, 10, 1)", Made::withAll, x -> x.set(0, 10, 1), -1);
            Boundary.refused("set(0, 0, 10)", Made::withAll, x -> x.set(0, 0, 10), -2);
            Boundary.refused("set(0, 1, 9) with 40 runs", Made::fullOfRuns, x -> x.set(0, 1, 9), -4);
            Boundary.refused("sort(4)", Made::withAll, x -> x.sort(4), -1);
            Boundary.refused("turn(4, 0)", Made::withAll, x -> x.turn(4, 0), -1);
            Boundary.refused("turn(0, 4)", Made::withAll, x -> x.turn(0, 4), -1);
            Boundary.refused("merge(4, 0, 1, 0)", Made::withAll, x -> x.merge(4, 0, 1, 0), -1);
            Boundary.refused("merge(0, 0, 1, 3)", Made::withAll, x -> x.merge(0, 0, 1, 3), -2);
            Boundary.refused("merge(2, 0, 1, 0) to 41 runs", ChangesBoundaries::mergeOf41, x -> x.merge(2, 0, 1, 0), -4);
            Boundary.refused("undo() with an empty history", Made::withoutHistory, JoinedRuns::undo, -5);
            Boundary.refused("save(2)", Made::withAll, x -> x.save(2), -2);
            Boundary.refused("restore(2)", Made::withAll, x -> x.restore(2), -2);
            Boundary.refused("restore(1), in which nothing was saved", Made::withAll, x -> x.restore(1), -5);
            Boundary.refused("put(0)", Made::withAll, x -> x.put(0), -2);
            Boundary.refused("put('1;' and a space)", Made::withAll, x -> x.put(Checks.packed("1; ")), -2);
            Boundary.refused("put(2 characters) behind 79", () -> Made.pad(79), x -> x.put(Checks.packed("11")), -4);
            Boundary.refused("carryOut() of a bad text", () -> Made.pad(80), JoinedRuns::carryOut, -3);
        });
    }

    private static void errorsOfQuestionsChangeNothing() {
        Sentences.sentence("A call that returns an error changes nothing", () -> {
            Boundary.refused("run(0, 5, 0)", Made::withAll, x -> x.run(0, 5, 0), -1);
            Boundary.refused("run(0, 0, 3)", Made::withAll, x -> x.run(0, 0, 3), -2);
            Boundary.refused("value(0, 10)", Made::withAll, x -> x.value(0, 10), -1);
            Boundary.refused("find(4, 0, 0)", Made::withAll, x -> x.find(4, 0, 0), -1);
            Boundary.refused("find(0, 0, -1)", Made::withAll, x -> x.find(0, 0, -1), -2);
            Boundary.refused("ofColumn(4, 0)", Made::withAll, x -> x.ofColumn(4, 0), -1);
            Boundary.refused("ofColumn(0, 7)", Made::withAll, x -> x.ofColumn(0, 7), -2);
            Boundary.refused("group(4, 0, 0)", Made::withAll, x -> x.group(4, 0, 0), -1);
            Boundary.refused("group(0, 0, 3)", Made::withAll, x -> x.group(0, 0, 3), -2);
            Boundary.refused("count(4)", Made::withAll, x -> x.count(4), -2);
            Boundary.refused("pair(0, 1, 99, 0)", Made::withAll, x -> x.pair(0, 1, 99, 0), -1);
            Boundary.refused("pair(0, 1, 0, 4)", Made::withAll, x -> x.pair(0, 1, 0, 4), -2);
            Boundary.refused("joined(0, 4, 0)", Made::withAll, x -> x.joined(0, 4, 0), -1);
            Boundary.refused("joined(0, 1, 5)", Made::withAll, x -> x.joined(0, 1, 5), -2);
            Boundary.refused("alike(4, 0)", Made::withAll, x -> x.alike(4, 0), -1);
            Boundary.refused("saves(4)", Made::withAll, x -> x.saves(4), -1);
            Boundary.refused("bestSet(4, 0, 0)", Made::withAll, x -> x.bestSet(4, 0, 0), -1);
            Boundary.refused("bestSet(0, 10, 0)", Made::withAll, x -> x.bestSet(0, 10, 0), -2);
        });
    }

    private static void noneAndNumbers() {
        Sentences.sentence("NONE (-6) is not an error; it is returned only if no error applies.", () -> {
            Boundary.asked("find in an empty column", Made::withAll, x -> x.find(3, 0, 0), -6);
            Boundary.refused("find a bad value in an empty column", Made::withAll, x -> x.find(3, 10, 0), -2);
            Boundary.refused("find a bad rank in an empty column", Made::withAll, x -> x.find(3, 0, -1), -2);
            Boundary.asked("bestSet of an empty column", Made::withAll, x -> x.bestSet(3, 0, 0), -6);
            Boundary.refused("bestSet of a bad value of an empty column", Made::withAll, x -> x.bestSet(3, 10, 0), -2);
            Boundary.refused("bestSet of a bad what of an empty column", Made::withAll, x -> x.bestSet(3, 0, 2), -2);
            Boundary.asked("fault of a text without one", Made::withAll, JoinedRuns::fault, -6);
        });
        Sentences.sentence("Everything is numbered from 0.", () -> {
            JoinedRuns x = Made.withAll();
            Checks.all("column 0, row 0", new int[] {x.value(0, 0), x.value(0, 9), x.value(0, 10), x.value(0, -1)}, 0, 4, -1, -1);
            Checks.all("run 0", new int[] {x.run(0, 0, 0), x.run(0, 0, 2), x.run(0, 4, 0), x.run(0, 5, 0)}, 0, 0, 4, -1);
            Checks.all("rank 0", new int[] {x.find(0, 1, 0), x.find(0, 1, 1), x.find(0, 1, 2)}, 1, 2, -6);
            Checks.all("pair 0", new int[] {x.pair(0, 0, 0, 3), x.pair(0, 0, 4, 3), x.pair(0, 0, 5, 3)}, 0, 6, -1);
            Checks.all("slot 0", new int[] {x.save(0), x.save(1), x.save(2)}, 11, 11, -2);
            x.wipe();
            x.put('x');
            Checks.due("the fault of x", x.fault(), 0);
        });
        Sentences.sentence("Sets of values are bit masks.", () -> {
            for (int value = 0; value <= 9; value++) {
                Checks.due("the set of " + value, Checks.of("3=" + value + "*2").ofColumn(3, 4), 1 << value);
            }
            Checks.due("the set of none", new JoinedRuns().ofColumn(3, 4), 0);
            Checks.due("the set of all", Checks.of("3=0,1,2,3,4,5,6,7,8,9,0").ofColumn(3, 4), 1023);
        });
    }

    private static void columns() {
        Sentences.sentence("There are 4 columns, 0 to 3, empty at first.", () -> {
            JoinedRuns x = new JoinedRuns();
            for (int column = 0; column <= 3; column++) {
                Checks.due("rows of column " + column, x.ofColumn(column, 0), 0);
                Checks.due("the first row of column " + column, x.append(column, column, 1 + column), 1 + column);
            }
            Checks.due("the columns", Checks.columns(x), "0 | 1*2 | 2*3 | 3*4");
            for (int column : Boundary.outside(0, 3)) {
                Checks.due("rows of column " + column, x.ofColumn(column, 0), -1);
            }
        });
        Sentences.sentence("A column has up to 999 rows, numbered from 0", () -> {
            JoinedRuns x = Made.fullOfRows();
            x.set(0, 998, 6);
            x.set(0, 0, 4);
            Checks.all("rows 0, 1, 997, 998", new int[] {x.value(0, 0), x.value(0, 1), x.value(0, 997), x.value(0, 998)}, 4, 5, 5, 6);
            Checks.all("rows -1 and 999", new int[] {x.value(0, -1), x.value(0, 999)}, -1, -1);
            Checks.due("rows", x.ofColumn(0, 0), 999);
            Checks.due("rows of another column, too", x.append(1, 0, 999), 999);
            Checks.due("all rows", x.count(0), 1998);
        });
        Sentences.sentence("each row has a value, 0 to 9.", () -> {
            for (int value = 0; value <= 9; value++) {
                JoinedRuns x = new JoinedRuns();
                x.append(2, value, 2);
                Checks.all("the rows of " + value, new int[] {x.value(2, 0), x.value(2, 1), x.value(2, 2)}, value, value, -1);
            }
        });
    }

    private static void runs() {
        Sentences.sentence("A column is kept as runs: a run is a value and a length (1 or more)", () -> {
            JoinedRuns x = Checks.of("0=1,2,3;1=4*2,5;2=6*2,7;3=8");
            Checks.due("remove a run whole", x.remove(0, 1, 1), 2);
            Checks.due("set a run of one row", x.set(1, 2, 4), 5);
            Checks.due("insert at the end of a run", x.insert(2, 2, 7, 1), 2);
            Checks.due("remove the last row", x.remove(3, 0, 1), 0);
            Checks.due("no run is left without rows", Checks.columns(x), "1,3 | 4*3 | 6*2,7*2 | ");
            Checks.due("merge with an empty column", x.merge(0, 0, 3, 1), 0);
            Checks.due("runs", x.ofColumn(0, 1), 0);
        });
        Sentences.sentence("two runs side by side never have the same value.", () -> {
            JoinedRuns x = Checks.of("0=1*2,2,1*3");
            Checks.due("remove what parts two", x.remove(0, 2, 1), 1);
            Checks.due("append to like", x.append(0, 1, 2), 7);
            Checks.due("insert in like", x.insert(0, 3, 1, 1), 1);
            Checks.due("insert ahead of like", x.insert(0, 0, 1, 1), 1);
            Checks.due("a column of one run", Checks.runs(x, 0), "1*9");
            x.set(0, 4, 2);
            Checks.due("set what parts two", x.set(0, 4, 1), 2);
            Checks.due("a column of one run", Checks.runs(x, 0), "1*9");
            Checks.carryOut(x, "1=1,2,1,2;2=2,1,2,1;3=5,5*2,5");
            Checks.due("sort", x.sort(1), 2);
            Checks.due("merge of the greater ones", x.merge(2, 2, 2, 1) + x.merge(2, 1, 2, 1), 8);
            Checks.due("runs", Checks.columns(x), "1*9 | 1*2,2*2 | 2,1,2*2 | 5*4");
        });
        Sentences.sentence("A column has at most 40 runs.", () -> {
            JoinedRuns x = Made.fullOfRuns();
            Checks.all("runs 39 and 40", new int[] {x.ofColumn(0, 1), x.run(0, 39, 0), x.run(0, 39, 2), x.run(0, 40, 0)}, 40, 2, 117, -1);
            for (int column = 1; column <= 3; column++) {
                Checks.due("each column may have 40", x.turn(column, 0), 120);
            }
            Checks.due("all runs", x.count(1), 160);
        });
    }

    private static void tooManyRuns() {
        Sentences.sentence("A call by which there would be more returns TOO_MANY", () -> {
            Checks.due("append, 39 runs and one more", Made.runs(39, 3).append(0, 2, 1), 118);
            Boundary.refused("append, 40 runs and one more", Made::fullOfRuns, x -> x.append(0, 3, 1), -4);
            Checks.due("append, 40 runs, the last one grows", Made.fullOfRuns().append(0, 2, 1), 121);
            Checks.due("insert, 38 runs, one cut by another", Made.runs(38, 3).insert(0, 1, 3, 1), 40);
            Boundary.refused("insert, 39 runs, one cut by another", () -> Made.runs(39, 3), x -> x.insert(0, 1, 3, 1), -4);
            Checks.due("insert, 39 runs, one between two", Made.runs(39, 3).insert(0, 3, 3, 1), 40);
            Boundary.refused("insert, 40 runs, one between two", Made::fullOfRuns, x -> x.insert(0, 3, 3, 1), -4);
            Checks.due("set, 38 runs, one cut by another", Made.runs(38, 3).set(0, 1, 3), 1);
            Boundary.refused("set, 39 runs, one cut by another", () -> Made.runs(39, 3), x -> x.set(0, 1, 3), -4);
            Checks.due("set, 39 runs, the first row", Made.runs(39, 3).set(0, 0, 3), 1);
            Boundary.refused("set, 40 runs, the first row", Made::fullOfRuns, x -> x.set(0, 0, 3), -4);
            Boundary.refused("merge to 41 runs", ChangesBoundaries::mergeOf41, x -> x.merge(2, 0, 1, 0), -4);
            Checks.due("merge to 40 runs", ChangesBoundaries.mergeOf40().merge(2, 0, 1, 0), 41);
            Checks.due("a text, 40 runs", Checks.carryOut(Made.runs(38, 3), "0+1,2"), 1);
            Checks.due("a text, 41 runs", Checks.carryOut(Made.runs(38, 3), "0+1,2,1"), 0);
        });
    }

    private static void tooManyRows() {
        Sentences.sentence("so does one by which a column would have more than 999 rows.", () -> {
            Checks.due("append to 999 rows", Made.rows(998).append(0, 5, 1), 999);
            Boundary.refused("append to 1000 rows", () -> Made.rows(998), x -> x.append(0, 5, 2), -4);
            Boundary.refused("append to 1000 rows", () -> Made.rows(1), x -> x.append(0, 5, 999), -4);
            Boundary.refused("append to 1998 rows", Made::fullOfRows, x -> x.append(0, 6, 999), -4);
            Checks.due("insert to 999 rows", Made.rows(998).insert(0, 500, 5, 1), 1);
            Boundary.refused("insert to 1000 rows", () -> Made.rows(998), x -> x.insert(0, 500, 5, 2), -4);
            Boundary.refused("insert to 1000 rows", () -> Made.rows(998), x -> x.insert(0, 500, 6, 2), -4);
            Boundary.refused("insert to 1000 rows", () -> Made.rows(1), x -> x.insert(0, 0, 5, 999), -4);
            Checks.due("a text to 999 rows", Checks.carryOut(Made.rows(998), "0+5"), 1);
            Checks.due("a text to 1000 rows", Checks.carryOut(Made.rows(998), "0+5*2"), 0);
            Checks.due("a text of 999 rows", Checks.carryOut(new JoinedRuns(), "0=5*998,6"), 1);
            Checks.due("a text of 1000 rows", Checks.carryOut(new JoinedRuns(), "0=5*998,6*2"), 0);
            Boundary.refused("both too many", Made::fullOfBoth, x -> x.append(0, 3, 1), -4);
            Boundary.refused("too many rows of a last run that would grow", Made::fullOfBoth, x -> x.append(0, 2, 1), -4);
            Checks.due("append of the greatest length to none", new JoinedRuns().append(0, 5, 999), 999);
            Boundary.refused("a wrap-around is no way out", Made::fullOfRows, x -> x.append(0, 5, MAX), -2);
            Boundary.refused("a wrap-around is no way out", Made::fullOfRows, x -> x.insert(0, 0, 5, MIN), -2);
        });
    }
}
