/** Promises 15 to 17: joins. */
public final class JoinsTest {
    private static final int MAX = Integer.MAX_VALUE, MIN = Integer.MIN_VALUE;

    private JoinsTest() {
    }

    public static void main(String[] args) {
        pair();
        joined();
        alike();
        Checks.end();
    }

    private static void pair() {
        Checks.promise(15);
        JoinedRuns x = Checks.of("0=9,3*6,5*4;1=3*5,9*5;2=1*999");
        Checks.all("pair 0", Answers.pair(x, 0, 1, 0), 9, 3, 1, 0);
        Checks.all("pair 1", Answers.pair(x, 0, 1, 1), 3, 3, 4, 1);
        Checks.all("pair 2", Answers.pair(x, 0, 1, 2), 3, 9, 2, 5);
        Checks.all("pair 3", Answers.pair(x, 0, 1, 3), 5, 9, 3, 7);
        Checks.all("no pair 4: the longer one's row 10 has no partner", Answers.pair(x, 0, 1, 4), -1, -1, -1, -1);
        Checks.all("the other way round", Answers.pair(x, 1, 0, 3), 9, 5, 3, 7);
        Checks.all("with itself", Answers.pair(x, 0, 0, 2), 5, 5, 4, 7);
        Checks.all("with a long one", Answers.pair(x, 2, 1, 1), 1, 9, 5, 5);
        Checks.all("no such column", new int[] {x.pair(4, 0, 0, 0), x.pair(0, 4, 0, 0), x.pair(-1, 0, 0, 9), x.pair(0, -1, 0, 0)}, -1, -1, -1, -1);
        Checks.all("no such pair", new int[] {x.pair(0, 1, -1, 0), x.pair(0, 1, 4, 9), x.pair(3, 0, 0, 0), x.pair(0, 1, MAX, 0), x.pair(0, 1, MIN, 0)}, -1, -1, -1, -1, -1);
        Checks.all("bad what", new int[] {x.pair(0, 1, 0, 4), x.pair(0, 1, 3, -1), x.pair(2, 2, 0, MAX)}, -2, -2, -2);

        Checks.carryOut(x, "0=1*9,2;1=3*2,4*3,5*2,6*9");
        Checks.all("a run of one is cut by many of the other", Answers.pair(x, 0, 1, 3), 1, 6, 2, 7);
        Checks.all("what is behind it", Answers.pair(x, 0, 1, 4), 2, 6, 1, 9);
        Checks.all("the other way round", Answers.pair(x, 1, 0, 3), 6, 1, 2, 7);
        Checks.all("what is behind it", Answers.pair(x, 1, 0, 4), 6, 2, 1, 9);
        JoinedRuns most = Made.mostPairs();
        Checks.all("the 79th pair of 40 and 40 runs", Answers.pair(most, 0, 1, 78), 2, 4, 1, 78);
        Checks.all("no 80th", Answers.pair(most, 0, 1, 79), -1, -1, -1, -1);
    }

    private static void joined() {
        Checks.promise(16);
        JoinedRuns x = Checks.of("0=9,3*6,5*4;1=3*5,9*5;2=0*999");
        Checks.all("0 and 1", Answers.joined(x, 0, 1), 10, 4, 4, 27 + 36 + 54 + 135, 4);
        Checks.all("0 and 0", Answers.joined(x, 0, 0), 11, 3, 11, 81 + 54 + 100, 3);
        Checks.all("0 and 2", Answers.joined(x, 0, 2), 11, 3, 0, 0, 3);
        Checks.all("2 and 1", Answers.joined(x, 2, 1), 10, 2, 0, 0, 2);
        Checks.all("with an empty one", Answers.joined(x, 0, 3), 0, 0, 0, 0, 0);
        Checks.all("an empty one with itself", Answers.joined(x, 3, 3), 0, 0, 0, 0, 0);
        Checks.carryOut(x, "0=1,2,1,2,1,1;1=2,1,2,1,1*5");
        Checks.all("pairs that come again are counted once, those turned round apart", Answers.joined(x, 0, 1), 6, 5, 2, 10, 3);
        Checks.carryOut(x, "3=9*999;2=9*999");
        Checks.all("999 rows of 9", Answers.joined(x, 2, 3), 999, 1, 999, 999 * 81, 1);
        Checks.all("79 runs of pairs", Answers.joined(Made.mostPairs(), 0, 1), 79, 79, 0, 414, 4);
        Checks.all("no such column", new int[] {x.joined(4, 0, 0), x.joined(0, 4, 0), x.joined(-1, 0, 9), x.joined(0, -1, 0)}, -1, -1, -1, -1);
        Checks.all("bad what", new int[] {x.joined(0, 1, 5), x.joined(0, 1, -1), x.joined(0, 0, MAX)}, -2, -2, -2);
    }

    private static void alike() {
        Checks.promise(17);
        JoinedRuns x = Checks.of("0=9,3*6,5*3;1=3*5,9*5;2=1*999");
        Checks.all("0 and 1, both ways, and with themselves", new int[] {x.alike(0, 1), x.alike(1, 0), x.alike(0, 0), x.alike(1, 1)}, 35, 35, 46, 50);
        Checks.all("none", new int[] {x.alike(0, 2), x.alike(0, 3), x.alike(3, 3)}, 0, 0, 0);
        Checks.due("999 times 999", x.alike(2, 2), 998001);
        Checks.carryOut(x, "0=0*2,9,0;1=0*5,9*2");
        Checks.due("0 is a value, too, and groups of several runs", x.alike(0, 1), 17);
        Checks.all("no such column", new int[] {x.alike(4, 0), x.alike(0, 4), x.alike(-1, 0), x.alike(0, MIN)}, -1, -1, -1, -1);
    }
}
