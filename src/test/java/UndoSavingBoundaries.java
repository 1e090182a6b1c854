/** Promises 24 to 26: every sentence that names a boundary. */
final class UndoSavingBoundaries {
    private UndoSavingBoundaries() {
    }

    static void all() {
        Sentences.chapter("Texts");
        Sentences.noPromise("Ahead of the calls `undo`, `save`, `restore` the interface says: ---- undo, saving.");
        undo();
        history();
        recorded();
        undoAnswers();
        save();
        restore();
    }

    private static void undo() {
        Sentences.chapter("Promise 24: undo");
        Sentences.sentence("Undoes the latest change: everything except the pad, the slots and the history is as it was before it.", () -> {
            JoinedRuns x = Made.withAll();
            Checks.due("undo of append", x.undo(), 5);
            Checks.due("columns", Checks.columns(x), "0,1*2,2,3*2 | 8*2,5*4,6*2,7 | 9,0 | ");
            Checks.due("undo of turn", x.undo(), 4);
            Checks.due("columns", Checks.columns(x), "0,1*2,2,3*2 | 8*2,5*4,6*2,7 | 0,9 | ");
            Checks.due("undo of insert", x.undo(), 3);
            Checks.due("columns", Checks.columns(x), "0,1*2,2,3*2 | 5*4,6*2,7 | 0,9 | ");
            Checks.due("undo of set", x.undo(), 2);
            Checks.due("undo of sort", x.undo(), 1);
            Checks.due("columns", Checks.columns(x), "1*3,2,3*2 | 5*4,6*2,7 | 9,0 | ");
            Checks.due("undo of append", x.undo(), 0);
            Checks.due("columns", Checks.columns(x), "1*3,2,3*2 | 5*4,6*2 | 9,0 | ");
        });
        Sentences.sentence("everything except the pad, the slots and the history", () -> {
            JoinedRuns x = Made.fullOfBoth();
            x.save(1);
            Checks.write(x, "3=9");
            x.remove(0, 0, 999);
            Checks.write(x, ",8");
            x.save(0);
            Checks.due("undo", x.undo(), 5);
            Checks.all("a full column is back", new int[] {x.ofColumn(0, 0), x.ofColumn(0, 1), x.run(0, 39, 1)}, 999, 40, 63);
            Checks.due("what came on the pad stays there", x.count(2), 5);
            Checks.due("what was saved in a slot behind the change stays there", x.restore(0), 0);
            Checks.due("what was saved in a slot before the change stays there", x.restore(1), 40);
            Checks.due("the orders on the pad", x.carryOut(), 1);
            Checks.due("columns", Checks.runs(x, 3), "9,8");
        });
        Sentences.sentence("is as it was before it.", () -> {
            JoinedRuns x = new JoinedRuns();
            x.append(0, 1, 5);
            Checks.write(x, "0=7");
            x.wipe();
            Checks.due("undo of a new object's first change", x.undo(), 0);
            Checks.due("the pad stays empty, too", Checks.look(x), " |  |  |  | rows 0 pad 0 fault 0 undo 0");
            x.append(0, 2, 2);
            x.append(0, 3, 3);
            x.undo();
            x.append(0, 4, 4);
            Checks.due("a change behind an undo", Checks.columns(x), "2*2,4*4 |  |  | ");
            Checks.all("undo goes by what is undone no more", new int[] {x.undo(), x.ofColumn(0, 0), x.undo(), x.ofColumn(0, 0), x.undo()}, 1, 2, 0, 0, -5);
        });
    }

    private static void history() {
        Sentences.sentence("A history of at most 6 states is kept", () -> {
            for (int changes = 1; changes <= 20; changes++) {
                JoinedRuns x = new JoinedRuns();
                for (int k = 0; k < changes; k++) {
                    x.append(0, 1, 1);
                }
                int kept = Math.min(changes, 6);
                Checks.due("states kept of " + changes, x.count(3), kept);
                for (int left = kept - 1; left >= 0; left--) {
                    Checks.due("undo", x.undo(), left);
                }
                Checks.due("rows that are left of " + changes, x.ofColumn(0, 0), changes - kept);
                Checks.due("one more undo", x.undo(), -5);
            }
        });
        Sentences.sentence("when one more is recorded, the oldest one is dropped.", () -> {
            JoinedRuns x = new JoinedRuns();
            for (int value = 1; value <= 7; value++) {
                x.append(0, value, 1);
            }
            for (int k = 0; k < 6; k++) {
                x.undo();
            }
            Checks.due("the state before the first change is dropped", Checks.runs(x, 0), "1");
            for (int value = 2; value <= 6; value++) {
                x.append(0, value, 1);
            }
            Checks.due("five more, of which none is dropped", x.count(3), 5);
            x.append(0, 7, 1);
            x.append(0, 8, 1);
            x.append(0, 9, 1);
            for (int rows = 8; rows >= 3; rows--) {
                x.undo();
                Checks.due("rows", x.ofColumn(0, 0), rows);
            }
            Checks.due("no more", x.undo(), -5);
        });
        Sentences.sentence("An order of a text records nothing by itself.", () -> {
            Boundary.isChange("a text of 7 orders", x -> Checks.carryOut(x, "0!;0=1;0+2;1!;1=2;2!;3=1,2"));
            JoinedRuns x = Checks.of("0=1;0+2;0+3;0+4;0+5;0+6;0+7;0+8");
            Checks.all("one state for 8 orders", new int[] {x.count(3), x.undo(), x.ofColumn(0, 0), x.undo()}, 1, 0, 0, -5);
        });
    }

    private static void recorded() {
        Sentences.sentence("each method that is a change, and returns no error, records the state before it", () -> {
            Boundary.isChange("append", x -> x.append(0, 4, 1));
            Boundary.isChange("insert", x -> x.insert(0, 0, 4, 1));
            Boundary.isChange("remove", x -> x.remove(0, 0, 1));
            Boundary.isChange("set", x -> x.set(0, 0, 4));
            Boundary.isChange("sort", x -> x.sort(1));
            Boundary.isChange("turn", x -> x.turn(1, 0));
            Boundary.isChange("merge", x -> x.merge(1, 0, 1, 1));
            Boundary.isChange("carryOut", JoinedRuns::carryOut);
            Boundary.isChange("restore", x -> x.restore(0));
        });
        Sentences.sentence("and returns no error", () -> {
            Boundary.refused("append", Made::withAll, x -> x.append(0, 4, 990), -4);
            Boundary.refused("insert", Made::withAll, x -> x.insert(0, 0, 4, 990), -4);
            Boundary.refused("remove", Made::withAll, x -> x.remove(0, 0, 11), -5);
            Boundary.refused("set", Made::withAll, x -> x.set(0, 0, -1), -2);
            Boundary.refused("sort", Made::withAll, x -> x.sort(-1), -1);
            Boundary.refused("turn", Made::withAll, x -> x.turn(0, -1), -1);
            Boundary.refused("merge", ChangesBoundaries::mergeOf41, x -> x.merge(3, 0, 1, 0), -4);
            Boundary.refused("carryOut", () -> Made.pad(4), JoinedRuns::carryOut, -3);
            Boundary.refused("restore", Made::withAll, x -> x.restore(1), -5);
        });
        Sentences.sentence("(also if nothing is different then)", () -> {
            Boundary.isChange("set to the value that is there", x -> x.set(2, 0, 9));
            Boundary.isChange("sort of a sorted column", x -> x.sort(3));
            Boundary.isChange("turn of an empty column over an empty one", x -> x.turn(3, 3));
            Boundary.isChange("merge of a column with itself into itself", x -> x.merge(0, 0, 0, 2));
            Boundary.isChange("a text whose first order is an error", x -> Checks.carryOut(x, "0@999=1;0=1"));
            Boundary.isChange("restore of what is there", x -> {
                x.save(1);
                return x.restore(1);
            });
        });
        Sentences.sentence("each method that is a change", () -> {
            Boundary.recordsNone("save", Made::withAll, x -> x.save(1));
            Boundary.recordsNone("save of an empty object", JoinedRuns::new, x -> x.save(0));
            Boundary.recordsNone("put", Made::withAll, x -> x.put(';'));
            Boundary.recordsNone("wipe", Made::withAll, JoinedRuns::wipe);
            Boundary.recordsNone("fault", Made::withAll, JoinedRuns::fault);
        });
    }

    private static void undoAnswers() {
        Sentences.sentence("Returns how many changes can be undone then", () -> {
            JoinedRuns x = Made.withAll();
            Checks.all("from a full history to an empty one", new int[] {x.undo(), x.undo(), x.undo(), x.undo(), x.undo(), x.undo()}, 5, 4, 3, 2, 1, 0);
            Checks.all("then again", new int[] {x.sort(1), x.sort(1), x.undo(), x.undo()}, 2, 2, 1, 0);
        });
        Sentences.sentence("NOT_POSSIBLE if there is none.", () -> {
            Boundary.refused("a new object", JoinedRuns::new, JoinedRuns::undo, -5);
            Boundary.refused("all undone", Made::withoutHistory, JoinedRuns::undo, -5);
            Boundary.refused("what is no change", () -> {
                JoinedRuns x = new JoinedRuns();
                x.save(0);
                Checks.write(x, "0=1");
                return x;
            }, JoinedRuns::undo, -5);
            Boundary.refused("a change that was refused", () -> {
                JoinedRuns x = new JoinedRuns();
                x.append(0, 1, 1000);
                return x;
            }, JoinedRuns::undo, -5);
        });
    }

    private static void save() {
        Sentences.chapter("Promise 25: save");
        Sentences.sentence("Saves everything except the pad, the history and the slots in a slot", () -> {
            JoinedRuns x = Made.withAll();
            x.save(1);
            x.carryOut();
            x.undo();
            x.remove(0, 0, 10);
            Checks.write(x, "3!;");
            Checks.due("restore", x.restore(1), 11);
            Checks.due("columns, pad and history", Checks.look(x), "0,1*2,2,3*2,4*4 | 8*2,5*4,6*2,7 | 9,0 |  | rows 21 pad 3 fault 3 undo 6");
            Checks.due("the other slot", x.restore(0), 8);
            JoinedRuns full = Made.fullOfBoth();
            for (int column = 1; column < 4; column++) {
                full.turn(column, 0);
            }
            Checks.due("four full columns", full.save(0), 160);
            full.merge(0, 0, 0, 2);
            full.remove(3, 0, 999);
            Checks.all("are restored", new int[] {full.restore(0), full.count(0), full.run(0, 39, 1), full.run(3, 0, 1), full.run(3, 39, 1)}, 160, 3996, 63, 63, 24);
        });
        Sentences.sentence("and overwrites what was saved there.", () -> {
            JoinedRuns x = Made.fullOfRuns();
            Checks.due("a full column", x.save(0), 40);
            x.remove(0, 0, 119);
            Checks.due("one row of it", x.save(0), 1);
            Checks.due("restore", x.restore(0), 1);
            Checks.due("columns", Checks.columns(x), "2 |  |  | ");
            x.remove(0, 0, 1);
            Checks.due("nothing", x.save(0), 0);
            x.append(1, 1, 1);
            Checks.due("restore", x.restore(0), 0);
            Checks.due("columns", Checks.columns(x), " |  |  | ");
        });
        Sentences.sentence("`slot`: 0 or 1", () -> {
            JoinedRuns x = new JoinedRuns();
            x.append(0, 1, 1);
            Checks.due("slot 0", x.save(0), 1);
            x.append(1, 2, 2);
            Checks.due("slot 1", x.save(1), 2);
            x.append(2, 3, 3);
            Checks.all("each has its own", new int[] {x.restore(0), x.count(0), x.restore(1), x.count(0)}, 1, 1, 2, 3);
        });
        Sentences.sentence("Returns all runs", () -> {
            Checks.due("none", new JoinedRuns().save(0), 0);
            Checks.due("11", Made.withAll().save(0), 11);
        });
        Sentences.sentence("BAD_VALUE if there is no such slot.",
            () -> Boundary.refusedFor(Boundary.outside(0, 1), "save(%d)", Made::withAll, (y, slot) -> y.save(slot), -2));
    }

    private static void restore() {
        Sentences.chapter("Promise 26: restore");
        Sentences.sentence("Restores what was saved last in a slot, which keeps it.", () -> {
            JoinedRuns x = Made.withAll();
            Checks.due("restore", x.restore(0), 8);
            Checks.due("columns, pad and history", Checks.look(x), "1*3,2,3*2 | 5*4,6*2,7 | 9,0 |  | rows 15 pad 11 fault -6 undo 6");
            x.set(0, 0, 9);
            x.append(3, 1, 1);
            Checks.due("again", x.restore(0), 8);
            Checks.due("columns", Checks.columns(x), "1*3,2,3*2 | 5*4,6*2,7 | 9,0 | ");
            x.undo();
            Checks.due("columns behind an undo", Checks.columns(x), "9,1*2,2,3*2 | 5*4,6*2,7 | 9,0 | 1");
            Checks.due("and again", x.restore(0), 8);
        });
        Sentences.sentence("what was saved last", () -> {
            JoinedRuns x = Made.withAll();
            x.save(0);
            x.remove(0, 0, 10);
            Checks.due("not what was there first", x.restore(0), 11);
            Checks.due("columns", Checks.runs(x, 0), "0,1*2,2,3*2,4*4");
        });
        Sentences.sentence("This is a change.", () -> Boundary.isChange("restore(0)", x -> x.restore(0)));
        Sentences.sentence("`slot`: 0 or 1", () -> {
            JoinedRuns x = Checks.of("0=1,2");
            x.save(1);
            x.sort(0);
            Checks.all("1 alone is saved", new int[] {x.restore(0), x.restore(1)}, -5, 2);
            x.append(0, 3, 3);
            x.save(0);
            Checks.all("both are saved", new int[] {x.restore(1), x.restore(0)}, 2, 3);
        });
        Sentences.sentence("Returns all runs then", () -> {
            JoinedRuns x = new JoinedRuns();
            x.save(1);
            x.append(0, 1, 1);
            Checks.all("none", new int[] {x.restore(1), x.count(1)}, 0, 0);
            JoinedRuns full = Made.fullOfRuns();
            full.save(1);
            full.sort(0);
            Checks.all("40", new int[] {full.restore(1), full.count(1)}, 40, 40);
        });
        Sentences.sentence("BAD_VALUE if there is no such slot", () -> {
            Boundary.refusedFor(Boundary.outside(0, 1), "restore(%d)", Made::withAll, (y, slot) -> y.restore(slot), -2);
            Boundary.refusedFor(Boundary.outside(0, 1), "restore(%d) of a new object", JoinedRuns::new, (y, slot) -> y.restore(slot), -2);
        });
        Sentences.sentence("NOT_POSSIBLE if nothing was saved in it.", () -> {
            Boundary.refused("slot 0 of a new object", JoinedRuns::new, x -> x.restore(0), -5);
            Boundary.refused("slot 1 of a new object", JoinedRuns::new, x -> x.restore(1), -5);
            Boundary.refused("slot 1, where 0 was saved", Made::withAll, x -> x.restore(1), -5);
            Boundary.refused("where a save was refused", () -> {
                JoinedRuns x = Made.fullOfRows();
                x.save(2);
                return x;
            }, x -> x.restore(0), -5);
            JoinedRuns empty = new JoinedRuns();
            Checks.all("an empty object that was saved is something", new int[] {empty.save(0), empty.restore(0), empty.count(3)}, 0, 0, 1);
        });
    }
}
