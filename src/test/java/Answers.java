import java.util.function.IntUnaryOperator;
import java.util.stream.IntStream;

/** What a method answers to each of its "what"s, from 0 on. */
final class Answers {
    private Answers() {
    }

    private static int[] each(int whats, IntUnaryOperator asked) {
        return IntStream.range(0, whats).map(asked).toArray();
    }

    static int[] run(JoinedRuns x, int column, int run) {
        return each(3, what -> x.run(column, run, what));
    }

    static int[] ofColumn(JoinedRuns x, int column) {
        return each(7, what -> x.ofColumn(column, what));
    }

    static int[] group(JoinedRuns x, int column, int value) {
        return each(3, what -> x.group(column, value, what));
    }

    static int[] count(JoinedRuns x) {
        return each(4, x::count);
    }

    static int[] pair(JoinedRuns x, int one, int other, int pair) {
        return each(4, what -> x.pair(one, other, pair, what));
    }

    static int[] joined(JoinedRuns x, int one, int other) {
        return each(5, what -> x.joined(one, other, what));
    }

    static int[] bestSet(JoinedRuns x, int column, int value) {
        return each(2, what -> x.bestSet(column, value, what));
    }
}
