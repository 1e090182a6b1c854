/** Promises 24 to 26: undo, saving. */
public final class UndoSavingTest {
    private static final int MAX = Integer.MAX_VALUE, MIN = Integer.MIN_VALUE;

    private UndoSavingTest() {
    }

    public static void main(String[] args) {
        undo();
        undoOfEachChange();
        save();
        restore();
        Checks.end();
    }

    private static void undo() {
        Checks.promise(24);
        JoinedRuns x = new JoinedRuns();
        Checks.due("nothing to undo", x.undo(), JoinedRuns.NOT_POSSIBLE);
        for (int k = 1; k <= 9; k++) {
            x.append(0, k, 1);
        }
        Checks.due("6 states are kept", x.count(3), 6);
        for (int left = 5; left >= 0; left--) {
            Checks.due("undo", x.undo(), left);
            Checks.due("rows", x.ofColumn(0, 0), 3 + left);
        }
        Checks.due("the oldest ones were dropped", x.undo(), JoinedRuns.NOT_POSSIBLE);
        Checks.due("runs", Checks.runs(x, 0), "1,2,3");
        x.append(1, 5, 5);
        x.append(2, 6, 6);
        x.undo();
        x.append(3, 7, 7);
        Checks.due("a change behind an undo", x.undo(), 1);
        Checks.due("goes back to before it", Checks.look(x).startsWith("1,2,3 | 5*5 |  |  | rows 8"), true);
        Checks.due("undo", x.undo(), 0);
        Checks.due("runs", Checks.runs(x, 1), "");

        x.append(0, 9, 1);
        Checks.write(x, "0=1");
        x.save(0);
        x.append(0, 8, 1);
        Checks.due("undo", x.undo(), 1);
        Checks.due("the pad stays", x.count(2), 3);
        Checks.due("undo", x.undo(), 0);
        Checks.due("the slot stays", x.restore(0), 4);
        Checks.due("runs", Checks.runs(x, 0), "1,2,3,9");
    }

    /** Each method that is a change records one state, and one undo takes it back. */
    private static void undoOfEachChange() {
        JoinedRuns x = Checks.of("0=1*3,2*3;1=2*4,0;2=9,8,9");
        x.save(1);
        x.sort(2);
        x.undo();
        Checks.write(x, "0=5;9");
        String before = Checks.look(x);
        for (int kind = 0; kind < 8; kind++) {
            int answer = change(x, kind);
            Checks.due("change " + kind + " answers no error", answer >= 0, true);
            Checks.due("change " + kind + " is recorded", x.count(3), 2);
            Checks.due("undo of change " + kind, x.undo(), 1);
            Checks.due("look behind change " + kind, Checks.look(x), before);
        }
        x.wipe();
        Checks.write(x, "0=5;1!;0-0*1");
        x.carryOut();
        Checks.due("a text is recorded once", x.count(3), 2);
        x.undo();
        Checks.due("runs", Checks.runs(x, 0) + " " + Checks.runs(x, 1), "1*3,2*3 2*4,0");
        x.save(0);
        x.put('0');
        x.wipe();
        Checks.due("save, put, wipe and questions record nothing", x.count(3), 1);
        Checks.all("errors record nothing", new int[] {x.append(0, 1, 0), x.set(0, 9, 1), x.sort(4), x.restore(2), x.carryOut(), x.count(3)}, -2, -1, -1, -2, -3, 1);
    }

    private static int change(JoinedRuns x, int kind) {
        switch (kind) {
            case 0: return x.append(0, 4, 2);
            case 1: return x.insert(0, 1, 4, 2);
            case 2: return x.remove(0, 2, 2);
            case 3: return x.set(0, 1, 7);
            case 4: return x.sort(1);
            case 5: return x.turn(3, 1);
            case 6: return x.merge(0, 0, 1, 1);
            default:
                x.restore(1);
                x.undo();
                return x.restore(1);
        }
    }

    private static void save() {
        Checks.promise(25);
        JoinedRuns x = Checks.of("0=1,2,3;3=4*9");
        Checks.due("all runs", x.save(0), 4);
        Checks.due("is no change", x.count(3), 1);
        x.append(0, 4, 1);
        Checks.due("the other slot", x.save(1), 5);
        Checks.all("no such slot", new int[] {x.save(2), x.save(-1), x.save(MAX), x.save(MIN)}, -2, -2, -2, -2);
        x.remove(3, 0, 9);
        x.restore(0);
        Checks.due("each slot has its own", Checks.runs(x, 0) + " " + Checks.runs(x, 3), "1,2,3 4*9");
        x.restore(1);
        Checks.due("each slot has its own", Checks.runs(x, 0) + " " + Checks.runs(x, 3), "1,2,3,4 4*9");
        x.remove(0, 0, 4);
        Checks.due("overwrites what was saved", x.save(1), 1);
        x.restore(0);
        x.restore(1);
        Checks.due("runs", Checks.runs(x, 0) + " " + Checks.runs(x, 3), " 4*9");
        Checks.due("an empty state", new JoinedRuns().save(1), 0);
        JoinedRuns full = new JoinedRuns();
        for (int column = 0; column < 4; column++) {
            Checks.fillRuns(full, column);
        }
        Checks.due("160 runs", full.save(0), 160);
    }

    private static void restore() {
        Checks.promise(26);
        JoinedRuns x = Checks.of("0=1,2,3;3=4*9");
        Checks.all("nothing saved", new int[] {x.restore(0), x.restore(1)}, -5, -5);
        Checks.all("no such slot", new int[] {x.restore(2), x.restore(-1), x.restore(MAX), x.restore(MIN)}, -2, -2, -2, -2);
        Checks.due("errors record nothing", x.count(3), 1);
        x.save(1);
        Checks.due("the other slot has nothing", x.restore(0), JoinedRuns.NOT_POSSIBLE);
        x.append(1, 5, 5);
        Checks.write(x, "0=1");
        Checks.due("all runs then", x.restore(1), 4);
        Checks.due("look", Checks.look(x), "1,2,3 |  |  | 4*9 | rows 12 pad 3 fault -6 undo 3");
        x.append(0, 7, 7);
        Checks.due("the slot keeps it", x.restore(1), 4);
        Checks.due("runs", Checks.runs(x, 0), "1,2,3");
        x.undo();
        Checks.due("is a change that can be undone", Checks.runs(x, 0), "1,2,3,7*7");
        x.undo();
        Checks.due("runs", Checks.runs(x, 0), "1,2,3");
        x.undo();
        Checks.due("runs", Checks.runs(x, 1), "5*5");
        JoinedRuns empty = new JoinedRuns();
        empty.save(0);
        empty.append(0, 1, 1);
        Checks.all("an empty state that was saved", new int[] {empty.restore(0), empty.count(0), empty.count(3)}, 0, 0, 2);
    }
}
