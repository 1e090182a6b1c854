/** Promises 1 to 8: a new object and the changes. */
public final class ChangesTest {
    private static final int MAX = Integer.MAX_VALUE, MIN = Integer.MIN_VALUE;

    private ChangesTest() {
    }

    public static void main(String[] args) {
        newObject();
        append();
        insert();
        remove();
        set();
        sort();
        turn();
        merge();
        Checks.end();
    }

    private static void newObject() {
        Checks.promise(1);
        JoinedRuns x = new JoinedRuns();
        Checks.due("look", Checks.look(x), " |  |  |  | rows 0 pad 0 fault 0 undo 0");
        for (int column = 0; column < 4; column++) {
            Checks.due("rows of " + column, x.ofColumn(column, 0), 0);
            Checks.due("runs of " + column, x.ofColumn(column, 1), 0);
        }
        Checks.due("column 4", x.ofColumn(4, 0), JoinedRuns.NO_SUCH);
        Checks.due("undo", x.undo(), JoinedRuns.NOT_POSSIBLE);
        Checks.due("restore(0)", x.restore(0), JoinedRuns.NOT_POSSIBLE);
        Checks.due("restore(1)", x.restore(1), JoinedRuns.NOT_POSSIBLE);
        x.append(0, 1, 5);
        Checks.due("another object's rows", new JoinedRuns().count(0), 0);
    }

    private static void append() {
        Checks.promise(2);
        JoinedRuns x = new JoinedRuns();
        Checks.due("append(3, 0, 1)", x.append(3, 0, 1), 1);
        Checks.due("append(3, 9, 4)", x.append(3, 9, 4), 5);
        Checks.due("append(3, 9, 2), which grows the run", x.append(3, 9, 2), 7);
        Checks.due("runs", Checks.runs(x, 3), "0,9*6");
        Checks.due("undo of three appends", x.count(3), 3);

        String before = Checks.look(x);
        Checks.all("no such column", new int[] {x.append(4, 1, 1), x.append(-1, 1, 1), x.append(MAX, 10, 0)}, -1, -1, -1);
        Checks.all("bad value", new int[] {x.append(3, 10, 1), x.append(3, -1, 1), x.append(3, MIN, 1)}, -2, -2, -2);
        Checks.all("bad length", new int[] {x.append(3, 1, 0), x.append(3, 1, 1000), x.append(3, 1, MIN), x.append(3, 1, MAX)}, -2, -2, -2, -2);
        Checks.due("too many rows", x.append(3, 9, 993), JoinedRuns.TOO_MANY);
        Checks.due("errors change nothing", Checks.look(x), before);
        Checks.due("append up to 999 rows", x.append(3, 9, 992), 999);
        Checks.due("one more", x.append(3, 9, 1), JoinedRuns.TOO_MANY);
        Checks.due("999 rows at once", x.append(0, 7, 999), 999);

        JoinedRuns full = new JoinedRuns();
        Checks.fillRuns(full, 1);
        Checks.due("40 runs", full.ofColumn(1, 1), 40);
        before = Checks.look(full);
        Checks.due("a 41st run", full.append(1, 3, 1), JoinedRuns.TOO_MANY);
        Checks.due("nothing changed", Checks.look(full), before);
        Checks.due("the 40th run grows", full.append(1, 2, 5), 45);
        Checks.due("still 40 runs", full.ofColumn(1, 1), 40);
        Checks.due("a bad value is told first", full.append(1, 10, 999), JoinedRuns.BAD_VALUE);
    }

    private static void insert() {
        Checks.promise(3);
        JoinedRuns x = Checks.of("0=3*6,5");
        Checks.due("in a run of another value", x.insert(0, 2, 8, 3), 4);
        Checks.due("runs", Checks.runs(x, 0), "3*2,8*3,3*4,5");
        Checks.due("in a run of its value", x.insert(0, 3, 8, 2), 4);
        Checks.due("runs", Checks.runs(x, 0), "3*2,8*5,3*4,5");
        Checks.due("between two runs, like the one before", x.insert(0, 2, 3, 1), 4);
        Checks.due("between two runs, like the one behind", x.insert(0, 8, 3, 1), 4);
        Checks.due("between two runs, like none", x.insert(0, 8, 0, 9), 5);
        Checks.due("runs", Checks.runs(x, 0), "3*3,8*5,0*9,3*5,5");
        Checks.due("ahead of all", x.insert(0, 0, 9, 1), 6);
        Checks.due("ahead of all, grows", x.insert(0, 0, 9, 1), 6);
        Checks.due("behind all", x.insert(0, 25, 4, 1), 7);
        Checks.due("behind all, grows", x.insert(0, 26, 4, 2), 7);
        Checks.due("runs", Checks.runs(x, 0), "9*2,3*3,8*5,0*9,3*5,5,4*3");
        Checks.due("in an empty column", x.insert(2, 0, 6, 999), 1);

        String before = Checks.look(x);
        Checks.all("no such column", new int[] {x.insert(4, 0, 1, 1), x.insert(-1, -1, 10, 0)}, -1, -1);
        Checks.all("bad row", new int[] {x.insert(0, -1, 1, 1), x.insert(0, 29, 1, 1), x.insert(1, 1, 1, 1), x.insert(0, MAX, 1, 1)}, -2, -2, -2, -2);
        Checks.all("bad value", new int[] {x.insert(0, 0, -1, 1), x.insert(0, 0, 10, 1)}, -2, -2);
        Checks.all("bad length", new int[] {x.insert(0, 0, 1, 0), x.insert(0, 0, 1, 1000), x.insert(2, 0, 6, MAX)}, -2, -2, -2);
        Checks.all("too many rows", new int[] {x.insert(0, 0, 9, 972), x.insert(2, 500, 6, 1), x.insert(2, 0, 1, 999)}, -4, -4, -4);
        Checks.due("errors change nothing", Checks.look(x), before);
        Checks.due("up to 999 rows", x.insert(0, 0, 9, 971), 7);

        JoinedRuns full = Checks.of("1=" + Checks.zigzag(1, 2, 37));
        full.append(1, 2, 4);
        Checks.due("38 runs, one cut in two with one between", full.insert(1, 38, 5, 1), 40);
        full.undo();
        full.append(1, 0, 1);
        before = Checks.look(full);
        Checks.due("39 runs, one cut in two with one between", full.insert(1, 38, 5, 1), JoinedRuns.TOO_MANY);
        Checks.due("nothing changed", Checks.look(full), before);
        Checks.due("39 runs, one between two", full.insert(1, 37, 5, 1), 40);
        Checks.due("40 runs, one between two", full.insert(1, 37, 6, 1), JoinedRuns.TOO_MANY);
        Checks.due("40 runs, one that grows", full.insert(1, 37, 5, 1), 40);
        Checks.due("40 runs, one ahead of all", full.insert(1, 0, 5, 1), JoinedRuns.TOO_MANY);
        Checks.due("40 runs, the first one grows", full.insert(1, 0, 1, 1), 40);
    }

    private static void remove() {
        Checks.promise(4);
        JoinedRuns x = Checks.of("0=3*4,8*5,3*4,5");
        Checks.due("within a run", x.remove(0, 5, 2), 4);
        Checks.due("runs", Checks.runs(x, 0), "3*4,8*3,3*4,5");
        Checks.due("a run whole, so that its neighbours grow together", x.remove(0, 4, 3), 2);
        Checks.due("runs", Checks.runs(x, 0), "3*8,5");
        Checks.due("the last row", x.remove(0, 8, 1), 1);
        Checks.due("the first row", x.remove(0, 0, 1), 1);
        Checks.due("runs", Checks.runs(x, 0), "3*7");
        Checks.due("all rows", x.remove(0, 0, 7), 0);
        Checks.due("runs", Checks.runs(x, 0), "");
        Checks.carryOut(x, "1=1*3,2,3*2,1*2,4");
        Checks.due("from within a run to within another, alike", x.remove(1, 2, 5), 2);
        Checks.due("runs", Checks.runs(x, 1), "1*3,4");
        Checks.carryOut(x, "1=1*3,2,3*2,1*2,4");
        Checks.due("from within a run to within another, not alike", x.remove(1, 1, 4), 4);
        Checks.due("runs", Checks.runs(x, 1), "1,3,1*2,4");

        String before = Checks.look(x);
        Checks.all("no such column", new int[] {x.remove(4, 0, 1), x.remove(-1, 0, 0)}, -1, -1);
        Checks.all("no such row", new int[] {x.remove(1, 5, 1), x.remove(1, -1, 1), x.remove(0, 0, 1), x.remove(1, 5, 0), x.remove(1, MAX, MAX)}, -1, -1, -1, -1, -1);
        Checks.all("bad many", new int[] {x.remove(1, 0, 0), x.remove(1, 4, -1), x.remove(1, 0, MIN)}, -2, -2, -2);
        Checks.all("not so many", new int[] {x.remove(1, 0, 6), x.remove(1, 4, 2), x.remove(1, 4, MAX), x.remove(1, 0, MAX)}, -5, -5, -5, -5);
        Checks.due("errors change nothing", Checks.look(x), before);

        JoinedRuns full = new JoinedRuns();
        Checks.fillRuns(full, 2);
        Checks.due("40 runs less one that parts like ones", full.remove(2, 20, 1), 38);
    }

    private static void set() {
        Checks.promise(5);
        JoinedRuns x = Checks.of("0=3*6,5");
        Checks.due("in a run", x.set(0, 2, 7), 3);
        Checks.due("runs", Checks.runs(x, 0), "3*2,7,3*3,5");
        Checks.due("back again: three grow together", x.set(0, 2, 3), 7);
        Checks.due("runs", Checks.runs(x, 0), "3*6,5");
        Checks.due("the first row of a run", x.set(0, 0, 0), 3);
        Checks.due("the last row of a run grows the next", x.set(0, 5, 5), 3);
        Checks.due("runs", Checks.runs(x, 0), "0,3*4,5*2");
        Checks.due("the first row of a run grows the one before", x.set(0, 5, 3), 5);
        Checks.due("the last row", x.set(0, 6, 9), 5);
        Checks.due("runs", Checks.runs(x, 0), "0,3*5,9");
        JoinedRuns same = Checks.of("3=4,9*2");
        Checks.due("a value that is there already", same.set(3, 1, 9), 9);
        Checks.due("runs", Checks.runs(same, 3), "4,9*2");
        Checks.due("is a change all the same", same.count(3), 2);

        String before = Checks.look(x);
        Checks.all("no such column", new int[] {x.set(4, 0, 1), x.set(-1, 0, 10)}, -1, -1);
        Checks.all("no such row", new int[] {x.set(0, 7, 1), x.set(0, -1, 1), x.set(1, 0, 10), x.set(0, MAX, 1)}, -1, -1, -1, -1);
        Checks.all("bad value", new int[] {x.set(0, 0, -1), x.set(0, 0, 10), x.set(0, 0, MAX)}, -2, -2, -2);
        Checks.due("errors change nothing", Checks.look(x), before);

        JoinedRuns full = Checks.of("1=" + Checks.zigzag(1, 2, 37));
        full.append(1, 2, 3);
        Checks.due("38 runs, the middle of one", full.set(1, 38, 5), 2);
        Checks.due("40 runs", full.ofColumn(1, 1), 40);
        full.undo();
        full.append(1, 0, 2);
        before = Checks.look(full);
        Checks.due("39 runs, the middle of one", full.set(1, 38, 5), JoinedRuns.TOO_MANY);
        Checks.due("nothing changed", Checks.look(full), before);
        Checks.due("39 runs, the end of one", full.set(1, 41, 5), 0);
        Checks.due("40 runs, the end of one", full.set(1, 39, 5), JoinedRuns.TOO_MANY);
        Checks.due("40 runs, a run of one row", full.set(1, 0, 5), 1);
        Checks.due("40 runs, the end of one that grows the next", full.set(1, 39, 0), 2);
        Checks.due("40 runs", full.ofColumn(1, 1), 40);

        JoinedRuns tall = Checks.of("3=1*999");
        Checks.due("999 rows: the last", tall.set(3, 998, 2), 1);
        Checks.due("999 rows: behind the last", tall.set(3, 999, 2), JoinedRuns.NO_SUCH);
        Checks.due("runs", Checks.runs(tall, 3), "1*998,2");
    }

    private static void sort() {
        Checks.promise(6);
        JoinedRuns x = Checks.of("0=9*2,0,5*3,9,0*4,1;1=3*5");
        Checks.due("sort(0)", x.sort(0), 4);
        Checks.due("runs", Checks.runs(x, 0), "0*5,1,5*3,9*3");
        Checks.due("sorted already", x.sort(0), 4);
        Checks.due("one run", x.sort(1), 1);
        Checks.due("an empty column", x.sort(2), 0);
        Checks.due("each is a change", x.count(3), 5);
        String before = Checks.look(x);
        Checks.all("no such column", new int[] {x.sort(4), x.sort(-1), x.sort(MAX)}, -1, -1, -1);
        Checks.due("errors change nothing", Checks.look(x), before);
        JoinedRuns full = new JoinedRuns();
        Checks.fillRuns(full, 0);
        Checks.due("40 runs", full.sort(0), 2);
        Checks.due("runs", Checks.runs(full, 0), "1*20,2*20");
    }

    private static void turn() {
        Checks.promise(7);
        JoinedRuns x = Checks.of("0=9*2,0,5*3;1=1");
        Checks.due("turn(1, 0)", x.turn(1, 0), 6);
        Checks.due("the target", Checks.runs(x, 1), "5*3,0,9*2");
        Checks.due("the source stays", Checks.runs(x, 0), "9*2,0,5*3");
        Checks.due("a column from itself", x.turn(0, 0), 6);
        Checks.due("runs", Checks.runs(x, 0), "5*3,0,9*2");
        Checks.due("from an empty column", x.turn(0, 3), 0);
        Checks.due("runs", Checks.runs(x, 0), "");
        Checks.due("each is a change", x.count(3), 4);
        String before = Checks.look(x);
        Checks.all("no such column", new int[] {x.turn(4, 0), x.turn(0, 4), x.turn(-1, 0), x.turn(0, -1)}, -1, -1, -1, -1);
        Checks.due("errors change nothing", Checks.look(x), before);
        JoinedRuns full = new JoinedRuns();
        Checks.fillRuns(full, 0);
        Checks.due("40 runs", full.turn(3, 0), 40);
        Checks.due("they stand turned", full.value(3, 0) * 10 + full.value(3, 39), 21);
    }

    private static void merge() {
        Checks.promise(8);
        JoinedRuns x = Checks.of("0=9,3*6,5*3;1=3*5,9*5,1*9");
        Checks.due("the smaller ones", x.merge(2, 0, 1, 0), 10);
        Checks.due("runs", Checks.runs(x, 2), "3*7,5*3");
        Checks.due("the greater ones", x.merge(2, 0, 1, 1), 10);
        Checks.due("runs", Checks.runs(x, 2), "9,3*4,9*5");
        Checks.due("those alike", x.merge(3, 0, 1, 2), 4);
        Checks.due("runs", Checks.runs(x, 3), "3*4");
        Checks.due("the sources stay", Checks.runs(x, 0) + " " + Checks.runs(x, 1), "9,3*6,5*3 3*5,9*5,1*9");
        Checks.due("into one of both", x.merge(0, 1, 0, 0), 10);
        Checks.due("runs", Checks.runs(x, 0), "3*7,5*3");
        Checks.due("a column with itself", x.merge(1, 1, 1, 2), 19);
        Checks.due("runs", Checks.runs(x, 1), "3*5,9*5,1*9");

        String before = Checks.look(x);
        Checks.all("no such column", new int[] {x.merge(4, 0, 0, 0), x.merge(0, 4, 0, 0), x.merge(0, 0, 4, 9), x.merge(-1, 0, 0, 0)}, -1, -1, -1, -1);
        Checks.all("bad what", new int[] {x.merge(0, 0, 1, 3), x.merge(0, 0, 1, -1), x.merge(0, 0, 1, MAX)}, -2, -2, -2);
        Checks.due("errors change nothing", Checks.look(x), before);

        Checks.carryOut(x, "0=4,1,4,2,4;1=4,5,4,6,4,7");
        Checks.due("rows left out: the rest grow together", x.merge(2, 0, 1, 2), 3);
        Checks.due("runs", Checks.runs(x, 2), "4*3");
        JoinedRuns y = Checks.of("0=4,1");
        Checks.all("with an empty one", new int[] {y.merge(1, 0, 3, 0), y.merge(1, 3, 0, 1), y.merge(0, 3, 3, 2)}, 0, 0, 0);
        Checks.due("each is a change", y.count(3), 4);

        JoinedRuns full = new JoinedRuns();
        Checks.fillRuns(full, 0);
        full.append(0, 2, 1);
        Checks.carryOut(full, "1=9*39,0*2");
        Checks.due("40 runs", full.merge(2, 0, 1, 0), 41);
        Checks.due("40 runs", full.ofColumn(2, 1), 40);
        Checks.carryOut(full, "1=9*40,0");
        before = Checks.look(full);
        Checks.due("41 runs", full.merge(2, 0, 1, 0), JoinedRuns.TOO_MANY);
        Checks.due("41 runs into one of both", full.merge(0, 0, 1, 0), JoinedRuns.TOO_MANY);
        Checks.due("nothing changed", Checks.look(full), before);
        Checks.due("a bad what is told first", full.merge(2, 0, 1, 3), JoinedRuns.BAD_VALUE);
        Checks.due("the greater ones are two runs", full.merge(2, 0, 1, 1), 41);
        Checks.due("runs", Checks.runs(full, 2), "9*40,2");
    }
}
