/** Promises 18 and 19: what if. */
public final class WhatIfTest {
    private static final int MAX = Integer.MAX_VALUE;

    private WhatIfTest() {
    }

    public static void main(String[] args) {
        saves();
        bestSet();
        Checks.end();
    }

    private static void saves() {
        Checks.promise(18);
        JoinedRuns x = Checks.of("0=5*2,1*3,5*4,2,5;1=1,2,3");
        String before = Checks.look(x);
        Checks.all("runs saved", new int[] {x.saves(0), x.saves(1), x.saves(2)}, 2, 0, 0);
        Checks.all("no such column", new int[] {x.saves(4), x.saves(-1), x.saves(MAX)}, -1, -1, -1);
        Checks.due("nothing changes", Checks.look(x), before);
        Checks.fillRuns(x, 3);
        Checks.due("40 runs", x.saves(3), 38);
    }

    private static void bestSet() {
        Checks.promise(19);
        JoinedRuns x = Checks.of("0=3*2,5*2,3,5*3,3");
        String before = Checks.look(x);
        Checks.all("a row between two of the value", Answers.bestSet(x, 0, 5), 4, 3);
        Checks.all("a row that has the value is lower than one that would grow it", Answers.bestSet(x, 0, 3), 0, 5);
        Checks.all("a run of one row", Answers.bestSet(x, 0, 0), 4, 5);
        Checks.due("nothing changes", Checks.look(x), before);

        Checks.carryOut(x, "0=3*2,5*2");
        Checks.all("ends that grow a neighbour", Answers.bestSet(x, 0, 5), 1, 2);
        Checks.all("a row that has the value", Answers.bestSet(x, 0, 3), 0, 2);
        Checks.all("the first row, one run more", Answers.bestSet(x, 0, 9), 0, 3);
        Checks.carryOut(x, "0=3,5*4");
        Checks.all("the first row, alone, beside the value", Answers.bestSet(x, 0, 5), 0, 1);
        Checks.all("the first row, alone", Answers.bestSet(x, 0, 9), 0, 2);
        Checks.carryOut(x, "0=5*4,3");
        Checks.all("the last row", Answers.bestSet(x, 0, 5), 4, 1);
        Checks.all("the last row, alone", Answers.bestSet(x, 0, 9), 4, 2);
        Checks.all("the last row of a run that is not alone", Answers.bestSet(x, 0, 3), 3, 2);
        Checks.carryOut(x, "0=1*3,2*3,1*3");
        Checks.all("the lowest of several", Answers.bestSet(x, 0, 2), 2, 3);
        Checks.carryOut(x, "0=7");
        Checks.all("one row", Answers.bestSet(x, 0, 7), 0, 1);
        Checks.all("one row", Answers.bestSet(x, 0, 1), 0, 1);
        Checks.carryOut(x, "0=7*999");
        Checks.all("999 rows", Answers.bestSet(x, 0, 1), 0, 2);

        JoinedRuns full = new JoinedRuns();
        for (int k = 0; k < 40; k++) {
            full.append(0, 1 + k % 2, 3);
        }
        Checks.all("40 runs: the answer may be one that is too many", Answers.bestSet(full, 0, 9), 0, 41);
        Checks.due("set says so", full.set(0, 0, 9), JoinedRuns.TOO_MANY);

        Checks.due("an empty column", x.bestSet(1, 0, 0), JoinedRuns.NONE);
        Checks.due("an empty column", x.bestSet(1, 9, 1), JoinedRuns.NONE);
        Checks.all("no such column", new int[] {x.bestSet(4, 0, 0), x.bestSet(-1, 10, 2)}, -1, -1);
        Checks.all("bad value", new int[] {x.bestSet(0, 10, 0), x.bestSet(1, -1, 0), x.bestSet(0, MAX, 0)}, -2, -2, -2);
        Checks.all("bad what", new int[] {x.bestSet(0, 0, 2), x.bestSet(1, 0, -1), x.bestSet(0, 0, MAX)}, -2, -2, -2);
    }
}
