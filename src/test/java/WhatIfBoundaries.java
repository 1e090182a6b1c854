/** Promises 18 and 19: every sentence that names a boundary. */
final class WhatIfBoundaries {
    private static final int MAX = Integer.MAX_VALUE, MIN = Integer.MIN_VALUE;

    private WhatIfBoundaries() {
    }

    static void all() {
        Sentences.chapter("Texts");
        Sentences.sentence("Ahead of the calls `saves`, `bestSet` the interface says: ---- what if; nothing changes.", () -> {
            Boundary.asked("saves of a column that sort() would change", Made::withAll, x -> x.saves(2), 0);
            Boundary.asked("saves of 40 runs", Made::fullOfRuns, x -> x.saves(0), 38);
            Boundary.asked("the row of bestSet", Made::withAll, x -> x.bestSet(0, 1, 0), 0);
            Boundary.asked("the runs of bestSet", Made::withAll, x -> x.bestSet(0, 1, 1), 4);
            Boundary.asked("bestSet that set() would refuse", Made::fullOfRuns, x -> x.bestSet(0, 9, 1), 41);
            Boundary.asked("bestSet of an empty column", Made::withAll, x -> x.bestSet(3, 1, 1), -6);
        });
        saves();
        bestSetRow();
        bestSetErrors();
    }

    private static void saves() {
        Sentences.chapter("Promise 18: saves");
        Sentences.sentence("Tells how many runs fewer a column would have if it was sorted.", () -> {
            JoinedRuns x = Checks.of("0=1,2,1,2,3;1=9,8,7,6,5,4,3,2,1,0,9;2=5*999");
            Checks.all("fewer", new int[] {x.saves(0), x.saves(1)}, 2, 1);
            Checks.all("none fewer: of one run, of an empty column", new int[] {x.saves(2), x.saves(3)}, 0, 0);
            Checks.all("as sort() has it", new int[] {x.ofColumn(0, 1) - x.sort(0), x.ofColumn(1, 1) - x.sort(1)}, 2, 1);
            Checks.all("none fewer of a sorted one", new int[] {x.saves(0), x.saves(1)}, 0, 0);
            Checks.due("none fewer of a falling one", Checks.of("0=9,5,0").saves(0), 0);
        });
        Sentences.sentence("Returns how many", () -> {
            Checks.due("of 40 runs", Made.fullOfRuns().saves(0), 38);
            Checks.due("of 40 runs and 999 rows", Made.fullOfBoth().saves(0), 38);
            Checks.due("of a new object", new JoinedRuns().saves(3), 0);
        });
        Sentences.sentence("NO_SUCH if there is no such column.", () -> {
            JoinedRuns x = Checks.of("0=1,2,1;3=1,2,3,2,1");
            Checks.all("columns 0 and 3", new int[] {x.saves(0), x.saves(3)}, 1, 2);
            Boundary.refusedFor(Boundary.outside(0, 3), "saves(%d)", Made::withAll, (y, column) -> y.saves(column), -1);
        });
    }

    /** The row and how many runs there would be, as bestSet tells them of column 0. */
    private static void best(String runs, int value, int row, int many) {
        JoinedRuns x = Checks.of("0=" + runs);
        Checks.all("bestSet to " + value + " of " + runs, Answers.bestSet(x, 0, value), row, many);
        x.set(0, row, value);
        Checks.due("set, as bestSet has it", x.ofColumn(0, 1), many);
    }

    private static void bestSetRow() {
        Sentences.chapter("Promise 19: bestSet");
        Sentences.sentence("Finds the row of a column for which set() to a value would leave the fewest runs", () -> {
            best("3,5,3", 3, 1, 1);
            best("3,5,4", 3, 1, 2);
            best("4,5,3", 3, 1, 2);
            best("4,5*2,3", 3, 0, 3);
            best("4*2,5*2,3*2", 9, 0, 4);
            best("4*2,5,3*2", 9, 2, 3);
            best("4*2,5,3*2", 3, 2, 2);
            best("4,5*2", 5, 0, 1);
            best("5*2,4", 5, 2, 1);
            best("5*2,4", 9, 2, 2);
            best("1,2*2,1*2,2,1", 1, 5, 3);
        });
        Sentences.sentence("(whether it would be TOO_MANY or not)", () -> {
            JoinedRuns x = Made.fullOfRuns();
            Checks.all("41 runs", new int[] {x.bestSet(0, 9, 0), x.bestSet(0, 9, 1), x.set(0, 0, 9)}, 0, 41, -4);
            Checks.all("40 runs", Answers.bestSet(x, 0, 1), 0, 40);
            JoinedRuns y = Made.fullOfBoth();
            Checks.all("41 runs, 999 rows", Answers.bestSet(y, 0, 0), 0, 41);
        });
        Sentences.sentence("of several the lowest one.", () -> {
            best("7*999", 7, 0, 1);
            best("7*999", 8, 0, 2);
            best("1*3,2*3,1*3,2*3", 2, 2, 4);
            best("1,2,1,2,1,2,1", 2, 2, 5);
            best("1*2,2,1,2,1*2", 2, 3, 3);
            best("2,1*3,2,1*3", 2, 0, 4);
            best("1*2,0,1,0,1", 1, 2, 3);
        });
        Sentences.sentence("`what`: 0 the row, 1 how many runs there would be", () -> {
            JoinedRuns x = Checks.of("2=6*4,9;3=0");
            Checks.all("both", Answers.bestSet(x, 2, 6), 4, 1);
            Checks.all("both, of one row", Answers.bestSet(x, 3, 9), 0, 1);
        });
        Sentences.sentence("Returns the number", () -> {
            JoinedRuns x = Made.rows(998);
            x.append(0, 6, 1);
            Checks.all("the last row of 999", Answers.bestSet(x, 0, 5), 998, 1);
        });
    }

    private static void bestSetErrors() {
        Sentences.sentence("NO_SUCH if there is no such column", () -> {
            JoinedRuns x = Checks.of("0=1;3=1,2");
            Checks.all("columns 0 and 3", new int[] {x.bestSet(0, 1, 1), x.bestSet(3, 1, 1)}, 1, 1);
            Boundary.refusedFor(Boundary.outside(0, 3), "bestSet(%d, 1, 0)", Made::withAll, (y, column) -> y.bestSet(column, 1, 0), -1);
        });
        Sentences.sentence("BAD_VALUE if value is not 0 to 9 or what is neither 0 nor 1", () -> {
            JoinedRuns x = Checks.of("0=0,5,9");
            Checks.all("values 0 and 9", new int[] {x.bestSet(0, 0, 0), x.bestSet(0, 9, 0)}, 1, 1);
            Boundary.refusedFor(Boundary.outside(0, 9), "bestSet(0, %d, 0)", Made::withAll, (y, value) -> y.bestSet(0, value, 0), -2);
            Boundary.refusedFor(Boundary.outside(0, 9), "bestSet(3, %d, 1)", Made::withAll, (y, value) -> y.bestSet(3, value, 1), -2);
            Boundary.refusedFor(Boundary.outside(0, 1), "bestSet(0, 1, %d)", Made::withAll, (y, what) -> y.bestSet(0, 1, what), -2);
            Boundary.refusedFor(Boundary.outside(0, 1), "bestSet(3, 1, %d)", Made::withAll, (y, what) -> y.bestSet(3, 1, what), -2);
            Boundary.refused("both", Made::withAll, y -> y.bestSet(0, MIN, MAX), -2);
        });
        Sentences.sentence("NONE if it is empty.", () -> {
            Boundary.asked("the row", Made::withAll, y -> y.bestSet(3, 0, 0), -6);
            Boundary.asked("the runs", Made::withAll, y -> y.bestSet(3, 9, 1), -6);
            Checks.due("emptied again", Checks.of("1=5*999;1-0*999").bestSet(1, 5, 0), -6);
        });
    }
}
