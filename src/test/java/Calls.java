import java.util.ArrayList;
import java.util.List;

/** Arguments at the edges of what is taken, and the calls that are wrong by them. */
final class Calls {
    static final int LEAST = Integer.MIN_VALUE;
    static final int MOST = Integer.MAX_VALUE;
    static final int ALWAYS = MetricLogMonitor.ALWAYS;
    static final int LATEST = 1000000;

    /** The first numbers beyond each side, those that a shift of bits takes for a good one, and the outermost. */
    static final int[] NO_RELATION = {LEAST, -4, -1, 3, 4, 32, 64, MOST};
    static final int[] NO_VARIABLE = {LEAST, -32, -1, 3, 4, 32, 64, MOST};
    static final int[] NO_VALUE = {LEAST, -16, -1, 4, 5, 16, 32, 64, MOST};
    static final int[] TERM = {0, 1, 2, 4, 5, 6, 7};
    static final int[] NO_TERM = {LEAST, -4, -1, 3, 8, 32, 64, MOST};
    static final int[] NO_TIME = {LEAST, -1, LATEST + 1, MOST};
    static final int[] NO_PLACE = {LEAST, -1, 24, 32, 64, MOST};

    static final int[][] INTERVAL = {{0, 0}, {0, 1}, {1, 1}, {0, LATEST}, {LATEST - 1, LATEST}, {LATEST, LATEST}};
    static final int[][] PAST_INTERVAL_ONLY = {{0, ALWAYS}, {1, ALWAYS}, {LATEST - 1, ALWAYS}, {LATEST, ALWAYS}};
    static final int[][] NO_INTERVAL = {
        {-1, 0}, {-1, LATEST}, {-2, 0}, {LEAST, 0}, {LEAST, LATEST}, {LEAST, LEAST}, {LEAST, MOST},
        {1, 0}, {LATEST, 0}, {LATEST, LATEST - 1},
        {0, LATEST + 1}, {LATEST, LATEST + 1}, {LATEST + 1, LATEST + 1}, {LATEST + 1, LATEST}, {0, MOST}, {MOST, MOST},
        {MOST, LATEST}, {MOST, LEAST}, {0, -2}, {-2, -2}, {-3, -2}, {0, LEAST}, {LATEST, LEAST},
        {-1, ALWAYS}, {-2, ALWAYS}, {LEAST, ALWAYS}, {LATEST + 1, ALWAYS}, {MOST, ALWAYS}};

    private Calls() {
    }

    /** Numbers of no formula, when there are so many. */
    static int[] noFormula(int formulas) {
        return new int[] {LEAST, -1, formulas, Scene.MOST_FORMULAS, 32, 64, MOST};
    }

    /** Each call that makes a formula, with good arguments as soon as there is a formula 0. */
    static List<Call> goodMakings() {
        return List.of(Call.atom(0, 0, 1), Call.compare(true, 0, 1), Call.compare(false, 0, 4), Call.not(0),
                Call.join(true, 0, 0), Call.join(false, 0, 0), Call.exists(0, 0), Call.previous(0, 1, 0),
                Call.since(0, ALWAYS, 0, 0), Call.until(0, 1, 0, 0));
    }

    /** The calls that are refused in every state with so many formulas. */
    static List<Call> wrong(int formulas) {
        List<Call> calls = new ArrayList<>();
        addWrongRelationsAndTerms(calls);
        addWrongVariablesAndIntervals(calls);
        for (int f : noFormula(formulas)) {
            addAllWithFormula(calls, f);
        }
        addWrongForLog(calls);
        return calls;
    }

    private static void addWrongRelationsAndTerms(List<Call> calls) {
        for (int relation : NO_RELATION) {
            calls.add(Call.atom(relation, 0, 1));
        }
        for (int term : NO_TERM) {
            calls.add(Call.atom(0, term, 1));
            calls.add(Call.atom(2, 7, term));
            for (boolean less : new boolean[] {false, true}) {
                calls.add(Call.compare(less, term, 0));
                calls.add(Call.compare(less, 4, term));
                calls.add(Call.compare(less, term, term));
            }
        }
    }

    private static void addWrongVariablesAndIntervals(List<Call> calls) {
        for (int v : NO_VARIABLE) {
            calls.add(Call.exists(v, 0));
        }
        for (int[] interval : NO_INTERVAL) {
            calls.add(Call.previous(interval[0], interval[1], 0));
            calls.add(Call.since(interval[0], interval[1], 0, 0));
            calls.add(Call.until(interval[0], interval[1], 0, 0));
        }
        for (int[] interval : PAST_INTERVAL_ONLY) {
            calls.add(Call.until(interval[0], interval[1], 0, 0));
        }
    }

    private static void addAllWithFormula(List<Call> calls, int f) {
        calls.add(Call.not(f));
        calls.add(Call.join(true, f, 0));
        calls.add(Call.join(true, 0, f));
        calls.add(Call.join(false, f, 0));
        calls.add(Call.join(false, 0, f));
        calls.add(Call.join(false, f, f));
        calls.add(Call.exists(0, f));
        calls.add(Call.previous(0, 1, f));
        calls.add(Call.since(0, ALWAYS, f, 0));
        calls.add(Call.since(0, 1, 0, f));
        calls.add(Call.until(0, 1, f, 0));
        calls.add(Call.until(0, 1, 0, f));
        calls.add(Call.free(f));
        calls.add(Call.ranged(f));
        calls.add(Call.bounded(f));
        calls.add(Call.progress(f));
        calls.add(Call.satisfied(f, 0));
        calls.add(Call.rows(f, 0));
    }

    private static void addWrongForLog(List<Call> calls) {
        for (int relation : NO_RELATION) {
            calls.add(Call.gather(relation, 0, 0));
        }
        for (int value : NO_VALUE) {
            calls.add(Call.gather(0, value, 0));
            calls.add(Call.gather(1, 0, value));
        }
        for (int time : NO_TIME) {
            calls.add(Call.place(time));
        }
        for (int place : NO_PLACE) {
            calls.add(Call.satisfied(0, place));
            calls.add(Call.rows(0, place));
        }
    }
}
