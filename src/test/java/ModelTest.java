import java.util.Random;

/**
 * All promises: long runs of calls, drawn from fixed seeds, on the class and on the model side by side.
 * Each object has its own temper: short or long runs, few or many values, arguments that are seldom or often wrong.
 */
public final class ModelTest {
    private static final int OBJECTS = 6000;
    /** An object is used for so many calls, and nothing is promised of later ones. */
    private static final int CALLS = 512;
    private static final int[] WILD = {Integer.MIN_VALUE, Integer.MAX_VALUE, -1, -7, 4, 10, 1000, 2, 7, 79, 80, 0};
    private static final String[] SIGNS = {"0", "1", "3", "4", "9", "10", "00", "999", "1000", "=", "+", "!", "-", "*", "@", ",", ";", "~", "a", ":", "/"};

    private final Random random;
    private final JoinedRuns object = new JoinedRuns();
    private int calls = 0;
    private final Model model = new Model();
    private final int values;
    private final int longest;
    private final int wildness;
    private final int growth;

    private ModelTest(int seed) {
        random = new Random(seed);
        values = new int[] {2, 3, 10}[random.nextInt(3)];
        longest = new int[] {1, 3, 30, 999}[random.nextInt(4)];
        wildness = new int[] {1000, 60, 12}[random.nextInt(3)];
        growth = random.nextInt(4);
    }

    public static void main(String[] args) {
        for (int seed = 0; seed < OBJECTS; seed++) {
            new ModelTest(seed).use("seed " + seed + ", ");
        }
        Checks.end();
    }

    private void use(String at) {
        try {
            if (random.nextInt(3) == 0) {
                crowd(at);
            }
            while (calls < CALLS) {
                step(at + "call " + calls + ": ");
            }
        } catch (UsedUp e) {
            Checks.due(at + "calls", calls, CALLS);
        }
    }

    /** Columns that are all but full of runs, which calls that are drawn reach too seldom. */
    private void crowd(String at) {
        for (int column = 0; column < 2; column++) {
            carryOut(at, column + "=" + Checks.zigzag(column, 2, 39 - random.nextInt(4)));
        }
    }

    /** Thrown where the object would be called once too often, which may be in the midst of a step. */
    private static final class UsedUp extends RuntimeException {
        private static final long serialVersionUID = 1;
    }

    /** The object, for one call. */
    private JoinedRuns x() {
        if (calls == CALLS) {
            throw new UsedUp();
        }
        calls++;
        return object;
    }

    private int tame(int right) {
        return random.nextInt(wildness) == 0 ? WILD[random.nextInt(WILD.length)] : right;
    }

    private int column() {
        return tame(random.nextInt(4));
    }

    private int digit() {
        return tame(random.nextInt(values));
    }

    private int length() {
        return tame(1 + random.nextInt(longest));
    }

    private int what(int many) {
        return tame(random.nextInt(many));
    }

    /** A row of the column, one at or beside the border of a run more often than not. */
    private int row(int column) {
        int rows = Math.max(0, model.ofColumn(column, 0));
        int runs = model.ofColumn(column, 1);
        if (runs > 0 && random.nextInt(3) > 0) {
            return tame(model.run(column, random.nextInt(runs), 2) + random.nextInt(3) - 1);
        }
        return tame(random.nextInt(rows + 1));
    }

    private void step(String at) {
        int column = column();
        int kind = random.nextInt(26 + 8 * growth);
        if (kind < 8) {
            change(at, kind, column);
        } else if (kind < 19) {
            look(at, kind, column);
        } else if (kind < 22) {
            text(at);
        } else if (kind < 25) {
            states(at, kind);
        } else if (kind % 2 == 0) {
            change(at, 0, column);
        } else {
            change(at, 1, column);
        }
    }

    private void change(String at, int kind, int column) {
        int row = row(column);
        int value = digit();
        int length = length();
        int one = column();
        int other = column();
        switch (kind) {
            case 0:
                Checks.due(at + "append " + column + " " + value + " " + length, x().append(column, value, length), model.append(column, value, length));
                break;
            case 1:
                Checks.due(at + "insert " + column + " " + row + " " + value + " " + length, x().insert(column, row, value, length), model.insert(column, row, value, length));
                break;
            case 2:
            case 3:
                int many = tame(1 + random.nextInt(4));
                Checks.due(at + "remove " + column + " " + row + " " + many, x().remove(column, row, many), model.remove(column, row, many));
                break;
            case 4:
                Checks.due(at + "set " + column + " " + row + " " + value, x().set(column, row, value), model.set(column, row, value));
                break;
            case 5:
                if (random.nextInt(3) == 0) {
                    Checks.due(at + "sort " + column, x().sort(column), model.sort(column));
                }
                break;
            case 6:
                Checks.due(at + "turn " + column + " " + one, x().turn(column, one), model.turn(column, one));
                break;
            default:
                int what = what(3);
                Checks.due(at + "merge " + column + " " + one + " " + other + " " + what, x().merge(column, one, other, what), model.merge(column, one, other, what));
        }
        same(at, column);
        if (random.nextInt(10) == 0) {
            same(at);
        }
    }

    /** All columns run by run. */
    private void same(String at) {
        for (int column = 0; column < 4; column++) {
            int runs = model.ofColumn(column, 1);
            for (int run = 0; run < runs; run++) {
                Checks.due(at + "value of run " + column + " " + run, x().run(column, run, 0), model.run(column, run, 0));
                Checks.due(at + "length of run " + column + " " + run, x().run(column, run, 1), model.run(column, run, 1));
            }
            Checks.due(at + "behind the runs of " + column, x().run(column, runs, 0), JoinedRuns.NO_SUCH);
        }
    }

    private void sameNowAndThen(String at) {
        Checks.due(at + "count 1", x().count(1), model.count(1));
        if (random.nextInt(4) == 0) {
            same(at);
        }
    }

    /** One column, cheaply: the object's calls are numbered. */
    private void same(String at, int column) {
        for (int what = 0; what < 4; what++) {
            Checks.due(at + "ofColumn " + column + " " + what, x().ofColumn(column, what), model.ofColumn(column, what));
        }
    }

    private void look(String at, int kind, int column) {
        int other = column();
        int value = digit();
        int what = what(7);
        switch (kind) {
            case 8:
                int run = tame(random.nextInt(41));
                Checks.due(at + "run " + column + " " + run + " " + what, x().run(column, run, what), model.run(column, run, what));
                break;
            case 9:
                int row = row(column);
                Checks.due(at + "value " + column + " " + row, x().value(column, row), model.value(column, row));
                break;
            case 10:
                int rank = tame(random.nextInt(longest + 9));
                Checks.due(at + "find " + column + " " + value + " " + rank, x().find(column, value, rank), model.find(column, value, rank));
                break;
            case 11:
                Checks.due(at + "ofColumn " + column + " " + what, x().ofColumn(column, what), model.ofColumn(column, what));
                break;
            case 12:
                Checks.due(at + "group " + column + " " + value + " " + what, x().group(column, value, what), model.group(column, value, what));
                break;
            case 13:
                Checks.due(at + "count " + what, x().count(what), model.count(what));
                break;
            case 14:
                int pair = tame(random.nextInt(80));
                Checks.due(at + "pair " + column + " " + other + " " + pair + " " + what, x().pair(column, other, pair, what), model.pair(column, other, pair, what));
                break;
            case 15:
                Checks.due(at + "joined " + column + " " + other + " " + what, x().joined(column, other, what), model.joined(column, other, what));
                break;
            case 16:
                Checks.due(at + "alike " + column + " " + other, x().alike(column, other), model.alike(column, other));
                break;
            case 17:
                Checks.due(at + "saves " + column, x().saves(column), model.saves(column));
                break;
            default:
                int which = what(2);
                Checks.due(at + "bestSet " + column + " " + value + " " + which, x().bestSet(column, value, which), model.bestSet(column, value, which));
        }
    }

    private String number(int right) {
        return random.nextInt(3 * wildness) == 0 ? SIGNS[random.nextInt(8)] : "" + Math.max(0, Math.min(999, right));
    }

    private String runs() {
        StringBuilder text = new StringBuilder();
        int many = 1 + random.nextInt(random.nextInt(4) == 0 ? 39 : 5);
        for (int k = 0; k < many; k++) {
            text.append(k > 0 ? "," : "").append(random.nextInt(values));
            if (random.nextInt(many > 5 ? 30 : 2) == 0) {
                text.append('*').append(number(length()));
            }
        }
        return text.toString();
    }

    private String order() {
        int column = random.nextInt(4);
        int row = row(column);
        switch (random.nextInt(5)) {
            case 0: return column + "=" + runs();
            case 1: return column + "+" + runs();
            case 2: return column + "!";
            case 3: return column + "-" + number(row) + "*" + number(1 + random.nextInt(3));
            default: return column + "@" + number(row) + "=" + random.nextInt(values);
        }
    }

    private String anyText() {
        StringBuilder text = new StringBuilder(order());
        for (int k = random.nextInt(5); k > 0; k--) {
            text.append(';').append(order());
        }
        if (random.nextInt(3) == 0) {
            int at = random.nextInt(text.length());
            text.replace(at, at + random.nextInt(2), SIGNS[random.nextInt(SIGNS.length)]);
        }
        if (random.nextInt(6) == 0) {
            text.setLength(random.nextInt(text.length()));
        }
        return text.toString();
    }

    private void text(String at) {
        if (random.nextInt(3) > 0) {
            Checks.due(at + "wipe", x().wipe(), model.wipe());
        }
        String text = anyText();
        write(at, text);
        if (random.nextInt(4) == 0) {
            put(at, anyCharacters());
        }
        Checks.due(at + "fault of " + text, x().fault(), model.fault());
        if (random.nextInt(5) > 0) {
            Checks.due(at + "carryOut of " + text, x().carryOut(), model.carryOut());
            sameNowAndThen(at);
        }
    }

    private void carryOut(String at, String text) {
        write(at, text);
        Checks.due(at + "carryOut of " + text, x().carryOut(), model.carryOut());
    }

    private void write(String at, String text) {
        for (int from = 0; from < text.length();) {
            int to = Math.min(text.length(), from + 1 + random.nextInt(8));
            put(at, Checks.packed(text.substring(from, to)));
            from = to;
        }
    }

    private long anyCharacters() {
        switch (random.nextInt(3)) {
            case 0: return random.nextLong();
            case 1: return random.nextInt(300);
            default: return Checks.packed("!;0!") << 8 * random.nextInt(5) & ~(255L << 8 * random.nextInt(8));
        }
    }

    private void put(String at, long characters) {
        Checks.due(at + "put " + characters, x().put(characters), model.put(characters));
    }

    private void states(String at, int kind) {
        int slot = what(2);
        if (kind == 22) {
            Checks.due(at + "undo", x().undo(), model.undo());
        } else if (kind == 23) {
            Checks.due(at + "save " + slot, x().save(slot), model.save(slot));
        } else {
            Checks.due(at + "restore " + slot, x().restore(slot), model.restore(slot));
        }
        sameNowAndThen(at);
    }
}
