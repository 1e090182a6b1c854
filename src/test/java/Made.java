/** The objects that the tests of the boundaries begin with; each call makes a new one. */
final class Made {
    private Made() {
    }

    /**
     * Something everywhere: column 0 is 0,1*2,2,3*2,4*4 (10 rows, 5 runs), column 1 is 8*2,5*4,6*2,7 (9 rows, 4 runs),
     * column 2 is 9,0, column 3 is empty; the history is full and has dropped a state; slot 0 is saved, slot 1 is not;
     * the pad has 11 characters, two orders.
     */
    static JoinedRuns withAll() {
        JoinedRuns x = Checks.of("0=1*3,2,3*2;1=5*4,6*2;2=9,0");
        x.append(1, 7, 1);
        x.save(0);
        x.sort(2);
        x.set(0, 0, 0);
        x.insert(1, 0, 8, 2);
        x.turn(2, 2);
        x.append(0, 4, 4);
        Checks.write(x, "1+7*2;3=8,8");
        return x;
    }

    /** 0=1*3,2,3*2 and 1=5*4,6*2 and 2=9,0, and nothing that could be undone; slot 0 and the pad as above. */
    static JoinedRuns withoutHistory() {
        JoinedRuns x = withAll();
        for (int k = 0; k < 6; k++) {
            x.undo();
        }
        return x;
    }

    static JoinedRuns withRoomForOne() {
        JoinedRuns x = withAll();
        x.undo();
        return x;
    }

    /** Column 0 has so many runs of so many rows each, 1 and 2 in turn. */
    static JoinedRuns runs(int many, int length) {
        JoinedRuns x = new JoinedRuns();
        for (int k = 0; k < many; k++) {
            x.append(0, 1 + k % 2, length);
        }
        return x;
    }

    static JoinedRuns fullOfRuns() {
        return runs(40, 3);
    }

    /** Column 0 has so many rows, all of the value 5. */
    static JoinedRuns rows(int many) {
        JoinedRuns x = new JoinedRuns();
        x.append(0, 5, many);
        return x;
    }

    static JoinedRuns fullOfRows() {
        return rows(999);
    }

    /** Column 0 has 40 runs and 999 rows: the last run, of 2, has 63 of them, each other one 24. */
    static JoinedRuns fullOfBoth() {
        JoinedRuns x = runs(39, 24);
        x.append(0, 2, 63);
        return x;
    }

    /** Columns 0 and 1 of 40 runs that are cut at other rows each: 79 runs of pairs, no two columns have more. */
    static JoinedRuns mostPairs() {
        JoinedRuns x = runs(40, 2);
        x.append(1, 3, 1);
        for (int k = 1; k < 40; k++) {
            x.append(1, 3 + k % 2, 2);
        }
        return x;
    }

    static JoinedRuns withText(String text) {
        JoinedRuns x = new JoinedRuns();
        Checks.write(x, text);
        return x;
    }

    /** The pad has so many characters: runs of 1, one behind the other. */
    static JoinedRuns pad(int many) {
        return withText(("0=" + "1,".repeat(40)).substring(0, many));
    }

    /** The pad has 80 characters, 19 orders without a fault that make column 0 1*28,2. */
    static JoinedRuns fullPad() {
        return withText("0+1;".repeat(18) + "0+1*10,2");
    }
}
