/** The chapter "Joins" and promises 15 to 17: every sentence that names a boundary. */
final class JoinsBoundaries {
    private JoinsBoundaries() {
    }

    static void all() {
        Sentences.chapter("Texts");
        Sentences.sentence("Ahead of the calls `pair`, `joined`, `alike` the interface says: ---- joins.", () -> {
            Boundary.asked("pair(0, 1, 0, 1)", Made::withAll, x -> x.pair(0, 1, 0, 1), 8);
            Boundary.asked("joined(0, 1, 0)", Made::withAll, x -> x.joined(0, 1, 0), 9);
            Boundary.asked("joined(0, 1, 4)", Made::withAll, x -> x.joined(0, 1, 4), 7);
            Boundary.asked("alike(0, 0)", Made::withAll, x -> x.alike(0, 0), 26);
        });
        joins();
        pair();
        pairErrors();
        joined();
        joinedErrors();
        alike();
    }

    private static void joins() {
        Sentences.chapter("Joins");
        Sentences.sentence("Two columns (perhaps the same one) joined by rows are the rows that both have (as many as the shorter one): "
            + "each has a pair of values.", () -> {
            JoinedRuns x = Checks.of("0=1*3,2*2;1=4*4;2=5");
            Checks.all("the one longer", Answers.joined(x, 0, 1), 4, 2, 0, 20, 2);
            Checks.all("the other longer", Answers.joined(x, 1, 0), 4, 2, 0, 20, 2);
            Checks.all("one row", Answers.joined(x, 2, 0), 1, 1, 0, 5, 1);
            Checks.all("the same one", Answers.joined(x, 0, 0), 5, 2, 5, 11, 2);
            Checks.all("an empty one", Answers.joined(x, 0, 3), 0, 0, 0, 0, 0);
            Checks.all("an empty one first", Answers.joined(x, 3, 0), 0, 0, 0, 0, 0);
            Checks.all("an empty one with itself", Answers.joined(x, 3, 3), 0, 0, 0, 0, 0);
            Checks.all("the rows of the longer one that are left out", Answers.pair(x, 0, 1, 1), 2, 4, 1, 3);
        });
        Sentences.sentence("(as many as the shorter one)", () -> {
            JoinedRuns x = Checks.of("0=1*998;1=1*999;2=2");
            Checks.all("998 and 999", new int[] {x.joined(0, 1, 0), x.joined(1, 0, 0), x.pair(0, 1, 0, 2), x.pair(1, 0, 0, 2)}, 998, 998, 998, 998);
            Checks.all("999 and 1", new int[] {x.joined(1, 2, 0), x.pair(1, 2, 0, 2), x.pair(1, 2, 1, 2)}, 1, 1, -1);
        });
        Sentences.sentence("They are told as runs of pairs: side by side ones are never alike.", () -> {
            JoinedRuns x = Checks.of("0=1*6;1=2*2,3*2,2*2;2=1*2,2*2,1*2");
            Checks.all("one run with three", Answers.joined(x, 0, 1), 6, 3, 0, 14, 2);
            Checks.all("borders at the same rows", Answers.joined(x, 1, 2), 6, 3, 0, 20, 2);
            Checks.all("the same one", Answers.pair(x, 0, 0, 0), 1, 1, 6, 0);
            Checks.due("no second one", x.pair(0, 0, 1, 0), -1);
            Checks.all("the middle one", Answers.pair(x, 1, 2, 1), 3, 2, 2, 2);
            JoinedRuns most = Made.mostPairs();
            for (int pair = 1; pair < 79; pair++) {
                boolean alike = most.pair(0, 1, pair, 0) == most.pair(0, 1, pair - 1, 0) && most.pair(0, 1, pair, 1) == most.pair(0, 1, pair - 1, 1);
                Checks.due("pairs " + (pair - 1) + " and " + pair + " are alike", alike, false);
            }
        });
        Sentences.sentence("Two columns joined by values are all pairs of a row of the one and a row of the other that have the same value; "
            + "told is how many they are.", () -> {
            JoinedRuns x = Checks.of("0=1*3,2*2,1;1=2*4,1,9;2=0*999");
            Checks.all("rows of the longer one count, too", new int[] {x.alike(0, 1), x.alike(1, 0)}, 12, 12);
            Checks.all("the same one", new int[] {x.alike(0, 0), x.alike(2, 2)}, 20, 998001);
            Checks.all("an empty one", new int[] {x.alike(0, 3), x.alike(3, 0), x.alike(3, 3)}, 0, 0, 0);
        });
    }

    private static void pair() {
        Sentences.chapter("Promise 15: pair");
        Sentences.sentence("Returns something about a run of pairs of two columns joined by rows.", () -> {
            JoinedRuns x = Made.withAll();
            Checks.all("pair 0", Answers.pair(x, 0, 1, 0), 0, 8, 1, 0);
            Checks.all("pair 1", Answers.pair(x, 0, 1, 1), 1, 8, 1, 1);
            Checks.all("pair 2", Answers.pair(x, 0, 1, 2), 1, 5, 1, 2);
            Checks.all("pair 6, the last one", Answers.pair(x, 0, 1, 6), 4, 7, 1, 8);
            Checks.all("turned round", Answers.pair(x, 1, 0, 6), 7, 4, 1, 8);
            Checks.all("with itself", Answers.pair(x, 0, 0, 4), 4, 4, 4, 6);
        });
        Sentences.sentence("`pair`: 0 for the first run of pairs", () -> {
            Checks.all("of one pair", Answers.pair(Checks.of("2=7;3=0*5"), 2, 3, 0), 7, 0, 1, 0);
            Checks.all("of 999 rows", Answers.pair(Made.fullOfRows(), 0, 0, 0), 5, 5, 999, 0);
            JoinedRuns most = Made.mostPairs();
            for (int pair = 0; pair < 79; pair++) {
                Checks.all("pair " + pair, Answers.pair(most, 0, 1, pair), 1 + pair / 2 % 2, 3 + (pair + 1) / 2 % 2, 1, pair);
            }
        });
        Sentences.sentence("`what`: 0 the value of the one, 1 that of the other, 2 its length, 3 its first row", () -> {
            JoinedRuns x = Checks.of("0=9*4,0*5;1=0*2,9*5");
            Checks.all("pair 0", Answers.pair(x, 0, 1, 0), 9, 0, 2, 0);
            Checks.all("pair 1", Answers.pair(x, 0, 1, 1), 9, 9, 2, 2);
            Checks.all("pair 2", Answers.pair(x, 0, 1, 2), 0, 9, 3, 4);
        });
        Sentences.sentence("Returns the number", () -> {
            Checks.all("of two full columns", Answers.pair(Made.fullOfBoth(), 0, 0, 39), 2, 2, 63, 936);
            Checks.all("of value 0", Answers.pair(Checks.of("1=0"), 1, 1, 0), 0, 0, 1, 0);
        });
    }

    private static void pairErrors() {
        Sentences.sentence("NO_SUCH if there is no such column or run of pairs", () -> {
            JoinedRuns x = Checks.of("0=1;3=2");
            Checks.all("columns 0 and 3", new int[] {x.pair(0, 3, 0, 0), x.pair(3, 0, 0, 0)}, 1, 2);
            Boundary.refusedFor(Boundary.outside(0, 3), "pair(%d, 0, 0, 0)", Made::withAll, (y, one) -> y.pair(one, 0, 0, 0), -1);
            Boundary.refusedFor(Boundary.outside(0, 3), "pair(0, %d, 0, 0)", Made::withAll, (y, other) -> y.pair(0, other, 0, 0), -1);
            Checks.due("pair 6 of 7", Made.withAll().pair(0, 1, 6, 0), 4);
            Boundary.refusedFor(Boundary.outside(0, 6), "pair(0, 1, %d, 0)", Made::withAll, (y, pair) -> y.pair(0, 1, pair, 0), -1);
            Boundary.refusedFor(Boundary.outside(0, 4), "pair(0, 0, %d, 3)", Made::withAll, (y, pair) -> y.pair(0, 0, pair, 3), -1);
            Boundary.refused("pair 79 of 79", Made::mostPairs, y -> y.pair(0, 1, 79, 0), -1);
            Boundary.refused("pair 80 of 79", Made::mostPairs, y -> y.pair(0, 1, 80, 3), -1);
            Boundary.refused("pair 40 of 40", Made::fullOfRuns, y -> y.pair(0, 0, 40, 0), -1);
            Boundary.refused("with an empty column", Made::withAll, y -> y.pair(0, 3, 0, 0), -1);
            Boundary.refused("an empty column", Made::withAll, y -> y.pair(3, 0, 0, 0), -1);
            Boundary.refused("an empty column with itself", Made::withAll, y -> y.pair(3, 3, 0, 0), -1);
            Boundary.refused("a run of the longer one behind the shorter one's end", Made::withAll, y -> y.pair(0, 2, 2, 0), -1);
        });
        Sentences.sentence("BAD_VALUE if what is out of range.", () -> {
            Boundary.refusedFor(Boundary.outside(0, 3), "pair(0, 1, 0, %d)", Made::withAll, (y, what) -> y.pair(0, 1, 0, what), -2);
            Boundary.refusedFor(Boundary.outside(0, 3), "pair(0, 0, 4, %d)", Made::withAll, (y, what) -> y.pair(0, 0, 4, what), -2);
        });
    }

    private static void joined() {
        Sentences.chapter("Promise 16: joined");
        Sentences.sentence("Returns a number of two columns joined by rows.", () -> {
            Checks.all("with all", Answers.joined(Made.withAll(), 0, 1), 9, 7, 0, 129, 7);
            Checks.all("two empty ones", Answers.joined(Made.withAll(), 3, 3), 0, 0, 0, 0, 0);
            Checks.all("79 runs of pairs", Answers.joined(Made.mostPairs(), 0, 1), 79, 79, 0, 414, 4);
            Checks.all("a full one with itself", Answers.joined(Made.fullOfBoth(), 0, 0), 999, 40, 999, 480 + 4 * 519, 2);
        });
        Sentences.sentence("`what`: 0 its rows", () -> {
            JoinedRuns x = Checks.of("0=9*999;1=1*998;2=3");
            Checks.all("as many as the shorter one", new int[] {x.joined(0, 1, 0), x.joined(1, 0, 0), x.joined(0, 2, 0), x.joined(0, 0, 0)}, 998, 998, 1, 999);
        });
        Sentences.sentence("1 its runs of pairs", () -> {
            JoinedRuns x = Checks.of("0=1*5,2*5;1=1*5,2*5;2=1*4,2*6;3=1*5");
            Checks.all("borders at the same rows, at others, at the end", new int[] {x.joined(0, 1, 1), x.joined(0, 2, 1), x.joined(0, 3, 1)}, 2, 3, 1);
        });
        Sentences.sentence("2 rows in which both are alike", () -> {
            JoinedRuns x = Checks.of("0=0*5,9*5;1=0*4,9*7;2=9*5,0*5");
            Checks.all("some, none, all", new int[] {x.joined(0, 1, 2), x.joined(0, 2, 2), x.joined(1, 1, 2)}, 9, 0, 11);
        });
        Sentences.sentence("3 the sum of the products of both values", () -> {
            JoinedRuns x = Checks.of("0=9*999;1=9*999;2=0*999;3=1,2*3");
            Checks.all("the greatest one, 0, some", new int[] {x.joined(0, 1, 3), x.joined(0, 2, 3), x.joined(3, 0, 3), x.joined(3, 3, 3)}, 80919, 0, 63, 13);
        });
        Sentences.sentence("4 how many unlike pairs of values there are (each counted once)", () -> {
            JoinedRuns x = Checks.of("0=1,2,1,2,1;1=2,1,2,1,1;2=5*9");
            Checks.due("pairs that come again, turned round, of two like values", x.joined(0, 1, 4), 3);
            Checks.due("a pair of one value", x.joined(2, 2, 4), 1);
            Checks.due("pairs of like values", x.joined(0, 0, 4), 2);
            Checks.due("ten of them", Checks.of("0=0,1,2,3,4,5,6,7,8,9").joined(0, 0, 4), 10);
            Checks.due("every value of the other beside one", Checks.of("0=9*10;1=0,1,2,3,4,5,6,7,8,9").joined(0, 1, 4), 10);
            Checks.due("every value of the one beside another", Checks.of("0=9*10;1=0,1,2,3,4,5,6,7,8,9").joined(1, 0, 4), 10);
        });
    }

    private static void joinedErrors() {
        Sentences.sentence("Returns the number", () -> Checks.due("a sum", Made.withAll().joined(1, 0, 3), 129));
        Sentences.sentence("NO_SUCH if there is no such column", () -> {
            JoinedRuns x = Checks.of("0=1;3=2");
            Checks.all("columns 0 and 3", new int[] {x.joined(0, 3, 0), x.joined(3, 0, 0)}, 1, 1);
            for (int what = 0; what < 5; what++) {
                int asked = what;
                Boundary.refusedFor(Boundary.outside(0, 3), "joined(%d, 0, " + what + ")", Made::withAll, (y, one) -> y.joined(one, 0, asked), -1);
                Boundary.refusedFor(Boundary.outside(0, 3), "joined(0, %d, " + what + ")", Made::withAll, (y, other) -> y.joined(0, other, asked), -1);
            }
        });
        Sentences.sentence("BAD_VALUE if what is out of range.", () -> {
            Boundary.refusedFor(Boundary.outside(0, 4), "joined(0, 1, %d)", Made::withAll, (y, what) -> y.joined(0, 1, what), -2);
            Boundary.refusedFor(Boundary.outside(0, 4), "joined(3, 3, %d)", Made::withAll, (y, what) -> y.joined(3, 3, what), -2);
        });
    }

    private static void alike() {
        Sentences.chapter("Promise 17: alike");
        Sentences.sentence("Tells how many pairs of rows two columns joined by values have.", () -> {
            JoinedRuns x = Checks.of("0=0*2,9,0;1=9*5,0;2=5*999;3=5*998,4");
            Checks.all("values 0 and 9", new int[] {x.alike(0, 1), x.alike(1, 0), x.alike(0, 0), x.alike(1, 1)}, 8, 8, 10, 26);
            Checks.all("none", new int[] {x.alike(0, 2), x.alike(3, 1)}, 0, 0);
            Checks.all("the most", new int[] {x.alike(2, 2), x.alike(2, 3), x.alike(3, 3)}, 998001, 997002, 996005);
            Checks.due("40 runs", Made.fullOfBoth().alike(0, 0), 480 * 480 + 519 * 519);
        });
        Sentences.sentence("Returns how many", () -> {
            JoinedRuns x = Made.withAll();
            Checks.all("with an empty one", new int[] {x.alike(0, 3), x.alike(3, 0), x.alike(3, 3)}, 0, 0, 0);
            Checks.due("one", Checks.of("1=8;2=8,9").alike(1, 2), 1);
        });
        Sentences.sentence("NO_SUCH if there is no such column.", () -> {
            JoinedRuns x = Checks.of("0=1;3=1");
            Checks.all("columns 0 and 3", new int[] {x.alike(0, 3), x.alike(3, 0)}, 1, 1);
            Boundary.refusedFor(Boundary.outside(0, 3), "alike(%d, 0)", Made::withAll, (y, one) -> y.alike(one, 0), -1);
            Boundary.refusedFor(Boundary.outside(0, 3), "alike(0, %d)", Made::withAll, (y, other) -> y.alike(0, other), -1);
        });
    }
}
