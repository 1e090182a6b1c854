/** Promises 9 to 14: every sentence that names a boundary. */
final class WhatThereIsBoundaries {
    private static final int MAX = Integer.MAX_VALUE, MIN = Integer.MIN_VALUE;

    private WhatThereIsBoundaries() {
    }

    static void all() {
        Sentences.chapter("Texts");
        Sentences.sentence("Ahead of the calls `run`, `value`, `find`, `ofColumn`, `group`, `count` the interface says: ---- what there is.",
            WhatThereIsBoundaries::questionsChangeNothing);
        run();
        value();
        find();
        ofColumn();
        ofColumnErrors();
        group();
        count();
    }

    private static void questionsChangeNothing() {
        Boundary.asked("run(0, 4, 1)", Made::withAll, x -> x.run(0, 4, 1), 4);
        Boundary.asked("value(0, 9)", Made::withAll, x -> x.value(0, 9), 4);
        Boundary.asked("find(0, 3, 1)", Made::withAll, x -> x.find(0, 3, 1), 5);
        Boundary.asked("ofColumn(0, 2)", Made::withAll, x -> x.ofColumn(0, 2), 26);
        Boundary.asked("ofColumn(0, 5)", Made::withAll, x -> x.ofColumn(0, 5), 1);
        Boundary.asked("group(0, 4, 2)", Made::withAll, x -> x.group(0, 4, 2), 4);
        Boundary.asked("count(0)", Made::withAll, x -> x.count(0), 21);
        Boundary.asked("count(3)", Made::withAll, x -> x.count(3), 6);
    }

    private static void run() {
        Sentences.chapter("Promise 9: run");
        Sentences.sentence("Returns something about a run.", () -> {
            JoinedRuns x = Checks.of("0=1;3=5*997,6,7");
            Checks.all("the only run", Answers.run(x, 0, 0), 1, 1, 0);
            Checks.all("the first run", Answers.run(x, 3, 0), 5, 997, 0);
            Checks.all("the last run", Answers.run(x, 3, 2), 7, 1, 998);
            JoinedRuns full = Made.fullOfBoth();
            Checks.all("run 38", Answers.run(full, 0, 38), 1, 24, 912);
            Checks.all("run 39, the 40th", Answers.run(full, 0, 39), 2, 63, 936);
            Checks.all("one run of 999 rows", Answers.run(Made.fullOfRows(), 0, 0), 5, 999, 0);
        });
        Sentences.sentence("`what`: 0 its value, 1 its length, 2 its first row", () -> {
            JoinedRuns x = Checks.of("2=9*3,0*7");
            Checks.all("each what of the first run", Answers.run(x, 2, 0), 9, 3, 0);
            Checks.all("each what of the second run", Answers.run(x, 2, 1), 0, 7, 3);
        });
        Sentences.sentence("Returns the number", () -> {
            JoinedRuns x = Made.fullOfRuns();
            for (int run = 0; run < 40; run++) {
                Checks.all("run " + run, Answers.run(x, 0, run), 1 + run % 2, 3, 3 * run);
            }
        });
        Sentences.sentence("NO_SUCH if there is no such column or run", () -> {
            JoinedRuns x = Checks.of("0=1;3=2");
            Checks.all("columns 0 and 3", new int[] {x.run(0, 0, 0), x.run(3, 0, 0)}, 1, 2);
            Boundary.refusedFor(Boundary.outside(0, 3), "run(%d, 0, 0)", Made::withAll, (y, column) -> y.run(column, 0, 0), -1);
            Checks.due("run 4 of 5", Made.withAll().run(0, 4, 0), 4);
            Boundary.refusedFor(Boundary.outside(0, 4), "run(0, %d, 0)", Made::withAll, (y, run) -> y.run(0, run, 0), -1);
            Boundary.refusedFor(Boundary.outside(0, 4), "run(0, %d, 2)", Made::withAll, (y, run) -> y.run(0, run, 2), -1);
            Boundary.refused("a run of an empty column", Made::withAll, y -> y.run(3, 0, 1), -1);
            Boundary.refused("run 40 of 40", Made::fullOfRuns, y -> y.run(0, 40, 0), -1);
            Boundary.refused("a run that was there", () -> {
                JoinedRuns y = Made.fullOfRuns();
                y.remove(0, 117, 3);
                return y;
            }, y -> y.run(0, 39, 0), -1);
        });
        Sentences.sentence("BAD_VALUE if what is out of range.",
            () -> Boundary.refusedFor(Boundary.outside(0, 2), "run(0, 4, %d)", Made::withAll, (y, what) -> y.run(0, 4, what), -2));
    }

    private static void value() {
        Sentences.chapter("Promise 10: value");
        Sentences.sentence("Returns the value of a row.", () -> {
            JoinedRuns x = Checks.of("1=5*2,0,9*996");
            Checks.all("at the borders of runs", new int[] {x.value(1, 0), x.value(1, 1), x.value(1, 2), x.value(1, 3), x.value(1, 998)}, 5, 5, 0, 9, 9);
            JoinedRuns full = Made.fullOfRuns();
            for (int row = 0; row < 120; row++) {
                Checks.due("row " + row, full.value(0, row), 1 + row / 3 % 2);
            }
        });
        Sentences.sentence("Returns the value;", () -> {
            for (int value = 0; value <= 9; value++) {
                JoinedRuns x = new JoinedRuns();
                x.append(3, value, 1);
                Checks.due("the only row", x.value(3, 0), value);
            }
        });
        Sentences.sentence("NO_SUCH if there is no such column or row.", () -> {
            JoinedRuns x = Checks.of("0=1;3=2");
            Checks.all("columns 0 and 3", new int[] {x.value(0, 0), x.value(3, 0)}, 1, 2);
            Boundary.refusedFor(Boundary.outside(0, 3), "value(%d, 0)", Made::withAll, (y, column) -> y.value(column, 0), -1);
            Boundary.refusedFor(Boundary.outside(0, 9), "value(0, %d)", Made::withAll, (y, row) -> y.value(0, row), -1);
            Boundary.refusedFor(Boundary.outside(0, 998), "value(0, %d)", Made::fullOfRows, (y, row) -> y.value(0, row), -1);
            Boundary.refused("row 0 of an empty column", Made::withAll, y -> y.value(3, 0), -1);
        });
    }

    private static void find() {
        Sentences.chapter("Promise 11: find");
        Sentences.sentence("Returns the row of a column that has a value as the one with a rank among all such rows.", () -> {
            JoinedRuns x = Checks.of("0=5*2,1,5*3,0,5");
            int[] rows = new int[6];
            for (int rank = 0; rank < 6; rank++) {
                rows[rank] = x.find(0, 5, rank);
            }
            Checks.all("over runs of one value", rows, 0, 1, 3, 4, 5, 7);
            Checks.all("values of one row", new int[] {x.find(0, 1, 0), x.find(0, 0, 0)}, 2, 6);
            JoinedRuns full = Made.fullOfBoth();
            Checks.all("the last ones of 999 rows", new int[] {full.find(0, 2, 518), full.find(0, 1, 479)}, 998, 935);
        });
        Sentences.sentence("`value`: 0 to 9", () -> {
            JoinedRuns x = Checks.of("0=9,0");
            Checks.all("values 0 and 9", new int[] {x.find(0, 0, 0), x.find(0, 9, 0)}, 1, 0);
            Boundary.refusedFor(Boundary.outside(0, 9), "find(0, %d, 0)", Made::withAll, (y, value) -> y.find(0, value, 0), -2);
        });
        Sentences.sentence("`rank`: 0 for the first one", () -> {
            Checks.due("rank 0", Checks.of("2=1*5,4*2").find(2, 4, 0), 5);
            Checks.due("rank 1", Checks.of("2=1*5,4*2").find(2, 4, 1), 6);
        });
        Sentences.sentence("Returns the row;", () -> {
            Checks.due("row 0", Made.fullOfRows().find(0, 5, 0), 0);
            Checks.due("row 998", Made.fullOfRows().find(0, 5, 998), 998);
        });
        Sentences.sentence("NO_SUCH if there is no such column", () -> {
            JoinedRuns x = Checks.of("0=1;3=1");
            Checks.all("columns 0 and 3", new int[] {x.find(0, 1, 0), x.find(3, 1, 0)}, 0, 0);
            Boundary.refusedFor(Boundary.outside(0, 3), "find(%d, 1, 0)", Made::withAll, (y, column) -> y.find(column, 1, 0), -1);
        });
        Sentences.sentence("BAD_VALUE if value or rank is out of range (rank below 0)", () -> {
            int[] below = {-1, -2, MIN, MIN + 1};
            Boundary.refusedFor(below, "find(0, 4, %d)", Made::withAll, (y, rank) -> y.find(0, 4, rank), -2);
            Boundary.refusedFor(below, "find(3, 4, %d)", Made::withAll, (y, rank) -> y.find(3, 4, rank), -2);
            Boundary.refused("both", Made::withAll, y -> y.find(0, 10, -1), -2);
            Boundary.refused("the value, with a rank that is too large", Made::withAll, y -> y.find(0, -1, MAX), -2);
        });
        Sentences.sentence("NONE if there are not so many.", () -> {
            Boundary.asked("rank 3 of 4 rows", Made::withAll, y -> y.find(0, 4, 3), 9);
            Boundary.asked("rank 4 of 4 rows", Made::withAll, y -> y.find(0, 4, 4), -6);
            Boundary.asked("rank 999 of 999 rows", Made::fullOfRows, y -> y.find(0, 5, 999), -6);
            Boundary.asked("the greatest int", Made::fullOfRows, y -> y.find(0, 5, MAX), -6);
            Boundary.asked("a value that no row has", Made::fullOfRows, y -> y.find(0, 4, 0), -6);
            Boundary.asked("an empty column", Made::withAll, y -> y.find(3, 0, 0), -6);
            JoinedRuns x = Made.fullOfRuns();
            x.remove(0, 117, 3);
            Checks.due("a row that was there", x.find(0, 2, 57), -6);
        });
    }

    private static void ofColumn() {
        Sentences.chapter("Promise 12: ofColumn");
        Sentences.sentence("Returns something about a column.", () -> {
            Checks.all("an empty one", Answers.ofColumn(new JoinedRuns(), 0), 0, 0, 0, 0, 0, 1, 1);
            Checks.all("one row of 0", Answers.ofColumn(Checks.of("3=0"), 3), 1, 1, 0, 1, 1, 1, 1);
            Checks.all("999 rows of 9", Answers.ofColumn(Checks.of("3=9*999"), 3), 999, 1, 8991, 999, 512, 1, 1);
            Checks.all("40 runs, 999 rows", Answers.ofColumn(Made.fullOfBoth(), 0), 999, 40, 1518, 63, 6, 0, 0);
            Checks.all("emptied again", Answers.ofColumn(Checks.of("2=9*999;2-0*999"), 2), 0, 0, 0, 0, 0, 1, 1);
            Checks.all("a rise that was taken out", Answers.ofColumn(Checks.of("2=3*2,2,9*5;2-3*5"), 2), 3, 2, 8, 2, 12, 0, 1);
            Checks.all("a fall that was taken out", Answers.ofColumn(Checks.of("2=3*2,4,0*5;2-3*5"), 2), 3, 2, 10, 2, 24, 1, 0);
        });
        Sentences.sentence("`what`: 0 its rows", () -> {
            Checks.due("none", new JoinedRuns().ofColumn(3, 0), 0);
            Checks.due("999", Made.fullOfRows().ofColumn(0, 0), 999);
        });
        Sentences.sentence("1 its runs", () -> {
            Checks.due("none", new JoinedRuns().ofColumn(3, 1), 0);
            Checks.due("one", Made.fullOfRows().ofColumn(0, 1), 1);
            Checks.due("40", Made.fullOfRuns().ofColumn(0, 1), 40);
        });
        Sentences.sentence("2 the sum of its values", () -> {
            Checks.due("none", new JoinedRuns().ofColumn(3, 2), 0);
            Checks.due("of 0", Checks.of("0=0*999").ofColumn(0, 2), 0);
            Checks.due("the greatest one", Checks.of("0=9*999").ofColumn(0, 2), 8991);
            Checks.due("each run by its length", Checks.of("0=0*5,1*10,9*3").ofColumn(0, 2), 37);
        });
        Sentences.sentence("3 the length of its longest run", () -> {
            Checks.due("none", new JoinedRuns().ofColumn(3, 3), 0);
            Checks.due("the first one", Checks.of("0=0*5,1*4,0*4").ofColumn(0, 3), 5);
            Checks.due("the last one", Checks.of("0=0*4,1*4,0*5").ofColumn(0, 3), 5);
            Checks.due("the only one", Made.fullOfRows().ofColumn(0, 3), 999);
        });
        Sentences.sentence("4 its values, as a set", () -> {
            Checks.due("none", new JoinedRuns().ofColumn(3, 4), 0);
            Checks.due("value 0", Checks.of("0=0").ofColumn(0, 4), 1);
            Checks.due("value 9", Checks.of("0=9*999").ofColumn(0, 4), 512);
            Checks.due("all", Checks.of("0=9,8,7,6,5,4,3,2,1,0,9").ofColumn(0, 4), 1023);
        });
        Sentences.sentence("5 whether its values never fall (1 or 0)", () -> {
            Checks.due("none", new JoinedRuns().ofColumn(3, 5), 1);
            Checks.due("one run", Checks.of("0=9*3").ofColumn(0, 5), 1);
            Checks.due("always rising", Checks.of("0=0,1,2,3,4,5,6,7,8,9").ofColumn(0, 5), 1);
            Checks.due("a fall by one at the end", Checks.of("0=0,1,2,3,4,3").ofColumn(0, 5), 0);
            Checks.due("a fall by one at the beginning", Checks.of("0=1,0,2,3,4").ofColumn(0, 5), 0);
        });
        Sentences.sentence("6 whether they never rise (1 or 0)", () -> {
            Checks.due("none", new JoinedRuns().ofColumn(3, 6), 1);
            Checks.due("one run", Checks.of("0=0*3").ofColumn(0, 6), 1);
            Checks.due("always falling", Checks.of("0=9,8,7,6,5,4,3,2,1,0").ofColumn(0, 6), 1);
            Checks.due("a rise by one at the end", Checks.of("0=4,3,2,1,2").ofColumn(0, 6), 0);
            Checks.due("a rise by one at the beginning", Checks.of("0=3,4,2,1").ofColumn(0, 6), 0);
        });
    }

    private static void ofColumnErrors() {
        Sentences.sentence("Returns the number", () -> Checks.all("of 10 rows", Answers.ofColumn(Made.withAll(), 0), 10, 5, 26, 4, 31, 1, 0));
        Sentences.sentence("NO_SUCH if there is no such column", () -> {
            JoinedRuns x = Checks.of("0=1;3=1,2");
            Checks.all("columns 0 and 3", new int[] {x.ofColumn(0, 0), x.ofColumn(3, 0)}, 1, 2);
            for (int what = 0; what < 7; what++) {
                int asked = what;
                Boundary.refusedFor(Boundary.outside(0, 3), "ofColumn(%d, " + what + ")", Made::withAll, (y, column) -> y.ofColumn(column, asked), -1);
            }
        });
        Sentences.sentence("BAD_VALUE if what is out of range.", () -> {
            Boundary.refusedFor(Boundary.outside(0, 6), "ofColumn(0, %d)", Made::withAll, (y, what) -> y.ofColumn(0, what), -2);
            Boundary.refusedFor(Boundary.outside(0, 6), "ofColumn(3, %d)", Made::withAll, (y, what) -> y.ofColumn(3, what), -2);
        });
    }

    private static void group() {
        Sentences.chapter("Promise 13: group");
        Sentences.sentence("Returns something about a value in a column.", () -> {
            Checks.all("of an empty column", Answers.group(new JoinedRuns(), 3, 0), 0, 0, 0);
            Checks.all("that no row has", Answers.group(Made.fullOfRows(), 0, 4), 0, 0, 0);
            Checks.all("that all rows have", Answers.group(Made.fullOfRows(), 0, 5), 999, 1, 999);
            Checks.all("that every other run has", Answers.group(Made.fullOfBoth(), 0, 2), 519, 20, 63);
            Checks.all("the first and the last value", Answers.group(Checks.of("0=0*2,9*3,0"), 0, 0), 3, 2, 2);
            Checks.all("the first and the last value", Answers.group(Checks.of("0=0*2,9*3,0"), 0, 9), 3, 1, 3);
            Checks.all("of which a run was taken out", Answers.group(Checks.of("0=0*2,9*3,0*5;0-5*5"), 0, 0), 2, 1, 2);
        });
        Sentences.sentence("`what`: 0 its rows, 1 its runs, 2 its longest run", () -> {
            JoinedRuns x = Checks.of("1=7*2,1,7*5,1*9,7*4");
            Checks.all("each what of 7", Answers.group(x, 1, 7), 11, 3, 5);
            Checks.all("each what of 1", Answers.group(x, 1, 1), 10, 2, 9);
            Boundary.refusedFor(Boundary.outside(0, 2), "group(0, 4, %d)", Made::withAll, (y, what) -> y.group(0, 4, what), -2);
        });
        Sentences.sentence("Returns the number", () -> Checks.all("of 4", Answers.group(Made.withAll(), 0, 4), 4, 1, 4));
        Sentences.sentence("NO_SUCH if there is no such column", () -> {
            JoinedRuns x = Checks.of("0=1;3=1*2");
            Checks.all("columns 0 and 3", new int[] {x.group(0, 1, 0), x.group(3, 1, 0)}, 1, 2);
            Boundary.refusedFor(Boundary.outside(0, 3), "group(%d, 1, 0)", Made::withAll, (y, column) -> y.group(column, 1, 0), -1);
        });
        Sentences.sentence("BAD_VALUE if value is not 0 to 9 or what is out of range.", () -> {
            JoinedRuns x = Checks.of("0=0,9*2");
            Checks.all("values 0 and 9", new int[] {x.group(0, 0, 0), x.group(0, 9, 0)}, 1, 2);
            Boundary.refusedFor(Boundary.outside(0, 9), "group(0, %d, 0)", Made::withAll, (y, value) -> y.group(0, value, 0), -2);
            Boundary.refusedFor(Boundary.outside(0, 9), "group(3, %d, 2)", Made::withAll, (y, value) -> y.group(3, value, 2), -2);
            Boundary.refused("both", Made::withAll, y -> y.group(0, 10, 3), -2);
            Boundary.refused("what, of an empty column", Made::withAll, y -> y.group(3, 0, -1), -2);
        });
    }

    private static void count() {
        Sentences.chapter("Promise 14: count");
        Sentences.sentence("Returns a number.", () -> {
            Checks.all("of a new object", Answers.count(new JoinedRuns()), 0, 0, 0, 0);
            Checks.all("of one with all", Answers.count(Made.withAll()), 21, 11, 11, 6);
        });
        Sentences.sentence("`what`: 0 all rows of all columns", () -> {
            JoinedRuns x = Made.fullOfRows();
            Checks.due("one column", x.count(0), 999);
            for (int column = 1; column < 4; column++) {
                x.turn(column, 0);
            }
            Checks.due("four full columns", x.count(0), 3996);
        });
        Sentences.sentence("1 all runs", () -> {
            JoinedRuns x = Made.fullOfRuns();
            Checks.due("one column", x.count(1), 40);
            for (int column = 1; column < 4; column++) {
                x.turn(column, 0);
            }
            Checks.due("four full columns", x.count(1), 160);
        });
        Sentences.sentence("2 the length of the pad", () -> {
            Checks.due("an empty one", new JoinedRuns().count(2), 0);
            Checks.due("one character", Made.pad(1).count(2), 1);
            Checks.due("a full one", Made.pad(80).count(2), 80);
        });
        Sentences.sentence("3 how many changes can be undone", () -> {
            JoinedRuns x = new JoinedRuns();
            for (int changes = 0; changes < 9; changes++) {
                Checks.due("behind so many changes", x.count(3), Math.min(changes, 6));
                x.append(0, 1, 1);
            }
            for (int left = 6; left >= 0; left--) {
                Checks.due("with so many left", x.count(3), left);
                x.undo();
            }
            Checks.due("behind an undo that is not possible", x.count(3), 0);
        });
        Sentences.sentence("Returns the number;", () -> Checks.due("all rows", Made.withAll().count(0), 21));
        Sentences.sentence("BAD_VALUE if what is out of range.",
            () -> Boundary.refusedFor(Boundary.outside(0, 3), "count(%d)", Made::withAll, (y, what) -> y.count(what), -2));
    }
}
