import java.util.Objects;

/** What every test of the project leans on: it compares answers, names the wrong ones and ends with their exit code. */
final class Checks {
    private static String about = "";
    private static int asked = 0;
    private static int wrong = 0;

    private Checks() {
    }

    static void promise(int number) {
        about("promise " + number);
    }

    /** What the answers that are asked from here on are about. */
    static void about(String what) {
        about = what;
    }

    static void due(String call, Object got, Object want) {
        asked++;
        if (!Objects.equals(got, want)) {
            wrong++;
            System.out.println(about + ": " + call + " answered " + got + ", due is " + want);
        }
    }

    /** Several answers of one kind at once, as in {@code all("rows", new int[] {x.a(), x.b()}, 1, 2)}. */
    static void all(String calls, int[] got, int... want) {
        due(calls, java.util.Arrays.toString(got), java.util.Arrays.toString(want));
    }

    static void end() {
        System.out.println(asked + " answers, " + wrong + " of them wrong");
        if (wrong != 0) {
            System.exit(1);
        }
    }

    /** Puts a text of any length on the pad, and answers what the last call of put answers. */
    static int write(JoinedRuns x, String text) {
        int answer = x.count(2);
        for (int from = 0; from < text.length(); from += 8) {
            answer = x.put(packed(text.substring(from, Math.min(from + 8, text.length()))));
        }
        return answer;
    }

    static long packed(String upToEight) {
        long characters = 0;
        for (int k = 0; k < upToEight.length(); k++) {
            characters = characters << 8 | upToEight.charAt(k);
        }
        return characters;
    }

    static int carryOut(JoinedRuns x, String text) {
        x.wipe();
        write(x, text);
        return x.carryOut();
    }

    static JoinedRuns of(String text) {
        JoinedRuns x = new JoinedRuns();
        carryOut(x, text);
        return x;
    }

    /** The runs of a column, as a text has them; two calls for each, as an object is good for 512 of them. */
    static String runs(JoinedRuns x, int column) {
        StringBuilder runs = new StringBuilder();
        int many = x.ofColumn(column, 1);
        for (int k = 0; k < many; k++) {
            int length = x.run(column, k, 1);
            runs.append(k > 0 ? "," : "").append(x.run(column, k, 0)).append(length == 1 ? "" : "*" + length);
        }
        return runs.toString();
    }

    static String columns(JoinedRuns x) {
        return runs(x, 0) + " | " + runs(x, 1) + " | " + runs(x, 2) + " | " + runs(x, 3);
    }

    /** All that can be seen of an object without a change to it. */
    static String look(JoinedRuns x) {
        return columns(x) + " | rows " + x.count(0) + " pad " + x.count(2) + " fault " + x.fault() + " undo " + x.count(3);
    }

    /** A text whose runs stand in turn between two values, so many of them. */
    static String zigzag(int one, int other, int runs) {
        StringBuilder text = new StringBuilder();
        for (int k = 0; k < runs; k++) {
            text.append(k > 0 ? "," : "").append(k % 2 == 0 ? one : other);
        }
        return text.toString();
    }

    /** A column of 40 runs of one row, 1 and 2 in turn: a pad holds 39 of them at the most. */
    static void fillRuns(JoinedRuns x, int column) {
        carryOut(x, column + "=" + zigzag(1, 2, 38));
        carryOut(x, column + "+1,2");
    }
}
