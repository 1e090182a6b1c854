/** Promises 9 to 14: what there is. */
public final class WhatThereIsTest {
    private static final int MAX = Integer.MAX_VALUE, MIN = Integer.MIN_VALUE;

    private WhatThereIsTest() {
    }

    public static void main(String[] args) {
        run();
        value();
        find();
        ofColumn();
        group();
        count();
        Checks.end();
    }

    private static void run() {
        Checks.promise(9);
        JoinedRuns x = Checks.of("2=7*3,0,9*20");
        Checks.all("the first run", Answers.run(x, 2, 0), 7, 3, 0);
        Checks.all("the middle run", Answers.run(x, 2, 1), 0, 1, 3);
        Checks.all("the last run", Answers.run(x, 2, 2), 9, 20, 4);
        Checks.all("no such column", new int[] {x.run(4, 0, 0), x.run(-1, 0, 3), x.run(MIN, 0, 0)}, -1, -1, -1);
        Checks.all("no such run", new int[] {x.run(2, 3, 0), x.run(2, -1, 0), x.run(0, 0, 0), x.run(2, 3, 9), x.run(2, MAX, 1)}, -1, -1, -1, -1, -1);
        Checks.all("bad what", new int[] {x.run(2, 0, 3), x.run(2, 2, -1), x.run(2, 0, MAX)}, -2, -2, -2);
        Checks.fillRuns(x, 0);
        Checks.all("the 40th run", new int[] {x.run(0, 39, 0), x.run(0, 39, 1), x.run(0, 39, 2), x.run(0, 40, 0)}, 2, 1, 39, -1);
    }

    private static void value() {
        Checks.promise(10);
        JoinedRuns x = Checks.of("1=7*3,0,9*2");
        int[] rows = new int[6];
        for (int row = 0; row < 6; row++) {
            rows[row] = x.value(1, row);
        }
        Checks.all("each row", rows, 7, 7, 7, 0, 9, 9);
        Checks.all("no such row", new int[] {x.value(1, 6), x.value(1, -1), x.value(0, 0), x.value(1, MAX), x.value(1, MIN)}, -1, -1, -1, -1, -1);
        Checks.all("no such column", new int[] {x.value(4, 0), x.value(-1, 0)}, -1, -1);
        x.append(3, 4, 998);
        x.append(3, 6, 1);
        Checks.all("999 rows", new int[] {x.value(3, 0), x.value(3, 997), x.value(3, 998), x.value(3, 999)}, 4, 4, 6, -1);
    }

    private static void find() {
        Checks.promise(11);
        JoinedRuns x = Checks.of("0=5*2,1*3,5*4,2,5");
        Checks.all("each 5", new int[] {x.find(0, 5, 0), x.find(0, 5, 1), x.find(0, 5, 2), x.find(0, 5, 5), x.find(0, 5, 6)}, 0, 1, 5, 8, 10);
        Checks.all("not so many", new int[] {x.find(0, 5, 7), x.find(0, 2, 1), x.find(0, 9, 0), x.find(1, 0, 0), x.find(0, 5, MAX)}, -6, -6, -6, -6, -6);
        Checks.all("no such column", new int[] {x.find(4, 5, 0), x.find(-1, 10, 0)}, -1, -1);
        Checks.all("bad value", new int[] {x.find(0, 10, 0), x.find(0, -1, 0), x.find(1, MAX, 0)}, -2, -2, -2);
        Checks.all("bad rank", new int[] {x.find(0, 5, -1), x.find(1, 9, -1), x.find(0, 9, MIN)}, -2, -2, -2);
        x.remove(0, 9, 2);
        Checks.all("rows that were taken out", new int[] {x.find(0, 5, 5), x.find(0, 5, 6), x.find(0, 2, 0)}, 8, -6, -6);
        x.append(3, 4, 999);
        Checks.all("999 rows", new int[] {x.find(3, 4, 998), x.find(3, 4, 999)}, 998, -6);
    }

    private static void ofColumn() {
        Checks.promise(12);
        JoinedRuns x = Checks.of("0=1*3,4,9*2;1=9,3*5,0*2;2=2,1,2*4");
        Checks.all("rising", Answers.ofColumn(x, 0), 6, 3, 25, 3, 1 << 1 | 1 << 4 | 1 << 9, 1, 0);
        Checks.all("falling", Answers.ofColumn(x, 1), 8, 3, 24, 5, 1 << 9 | 1 << 3 | 1, 0, 1);
        Checks.all("neither", Answers.ofColumn(x, 2), 6, 3, 11, 4, 1 << 1 | 1 << 2, 0, 0);
        Checks.all("empty", Answers.ofColumn(x, 3), 0, 0, 0, 0, 0, 1, 1);
        x.append(3, 9, 999);
        Checks.all("999 rows", Answers.ofColumn(x, 3), 999, 1, 8991, 999, 512, 1, 1);
        x.remove(0, 3, 3);
        Checks.all("one run, the others taken out", Answers.ofColumn(x, 0), 3, 1, 3, 3, 2, 1, 1);
        x.remove(1, 6, 2);
        Checks.all("two runs, the third taken out", Answers.ofColumn(x, 1), 6, 2, 24, 5, 1 << 9 | 1 << 3, 0, 1);
        Checks.carryOut(x, "0=1,9");
        Checks.all("rising at the second run", Answers.ofColumn(x, 0), 2, 2, 10, 1, 1 << 9 | 2, 1, 0);
        Checks.carryOut(x, "0=3,2,9;0-2*1");
        Checks.all("falling, a rise taken out", Answers.ofColumn(x, 0), 2, 2, 5, 1, 12, 0, 1);
        Checks.fillRuns(x, 2);
        Checks.all("40 runs", Answers.ofColumn(x, 2), 40, 40, 60, 1, 6, 0, 0);
        Checks.all("no such column", new int[] {x.ofColumn(4, 0), x.ofColumn(-1, 7), x.ofColumn(MAX, 0)}, -1, -1, -1);
        Checks.all("bad what", new int[] {x.ofColumn(0, 7), x.ofColumn(3, -1), x.ofColumn(0, MIN)}, -2, -2, -2);
    }

    private static void group() {
        Checks.promise(13);
        JoinedRuns x = Checks.of("0=5*2,1*3,5*4,2,5");
        Checks.all("5", Answers.group(x, 0, 5), 7, 3, 4);
        Checks.all("1", Answers.group(x, 0, 1), 3, 1, 3);
        Checks.all("0", Answers.group(x, 0, 0), 0, 0, 0);
        Checks.all("an empty column", Answers.group(x, 3, 9), 0, 0, 0);
        x.remove(0, 2, 9);
        Checks.all("its first run alone, the others taken out", Answers.group(x, 0, 5), 2, 1, 2);
        Checks.all("1, taken out", Answers.group(x, 0, 1), 0, 0, 0);
        x.remove(0, 0, 2);
        Checks.all("all taken out", Answers.group(x, 0, 5), 0, 0, 0);
        Checks.all("no such column", new int[] {x.group(4, 5, 0), x.group(-1, 10, 0)}, -1, -1);
        Checks.all("bad value", new int[] {x.group(0, 10, 0), x.group(0, -1, 0), x.group(0, MIN, 0)}, -2, -2, -2);
        Checks.all("bad what", new int[] {x.group(0, 5, 3), x.group(0, 5, -1), x.group(3, 0, MAX)}, -2, -2, -2);
    }

    private static void count() {
        Checks.promise(14);
        JoinedRuns x = new JoinedRuns();
        Checks.all("a new object", Answers.count(x), 0, 0, 0, 0);
        x.append(0, 1, 999);
        x.append(3, 2, 5);
        x.append(3, 1, 2);
        Checks.write(x, "0=1;nonsense");
        Checks.all("with all", Answers.count(x), 1006, 3, 12, 3);
        for (int k = 0; k < 5; k++) {
            x.sort(0);
        }
        Checks.due("no more than 6 can be undone", x.count(3), 6);
        x.undo();
        Checks.due("and one less behind an undo", x.count(3), 5);
        Checks.all("bad what", new int[] {x.count(4), x.count(-1), x.count(MAX), x.count(MIN)}, -2, -2, -2, -2);
    }
}
