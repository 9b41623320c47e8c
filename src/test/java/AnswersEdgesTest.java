import java.util.List;

/** Promises 17 to 19 at their edges: no places, one and 24; the first place that is not decided; no such formula. */
public final class AnswersEdgesTest {
    private static final int ALWAYS = MetricLogMonitor.ALWAYS;
    private static final int LATEST = Calls.LATEST;

    public static void main(String[] args) {
        progressOfEachKindFromNoneToAll();
        progressOfPartsThatAreBehind();
        progressOfPreviousBeforeAnUndecided();
        progressOfUntilIsBeyondHi();
        progressOfUntilIsOneLessThanAllAtMost();
        progressOfUntilAmongPlacesOfOneTime();
        progressOfUntilByThePlaceAtTheLesserProgress();
        progressOfUntilWithTheGreatestInterval();
        progressWithoutWatching();
        progressOfFirstAndLastFormula();
        decidedDoesNotDependOnLaterPlaces();
        satisfiedAtTheFirstAndLastDecidedPlace();
        satisfiedByAllIsNoRefusal();
        satisfiedOfNoFormula();
        rowsAtTheFirstAndLastDecidedPlace();
        rowsOfNoFormula();
        rowsOfNothingOneAndAll();
        rowsWithoutFreeVariables();
        askingChangesNothing();
        lastCallOfAnObject();
        Due.end();
    }

    /** "ATOM, EQUAL, LESS: n. NOT f, EXISTS f: that of f. AND, OR, SINCE: the lesser of those of f and g.". */
    private static void progressOfEachKindFromNoneToAll() {
        for (int n = 0; n <= 24; n++) {
            MetricLogMonitor m = Scene.watching(12, n);
            for (int f = 0; f < 12; f++) {
                if (f != 10) {
                    Due.due(n + " places: progress(" + f + ")", m.progress(f), n);
                }
            }
            Due.due(n + " places: progress of UNTIL", m.progress(10), decidedBeyond(4, n));
        }
    }

    private static int decidedBeyond(int hi, int places) {
        int decided = 0;
        for (int i = 0; i < places; i++) {
            if (Scene.timeOf(places - 1) > Scene.timeOf(i) + hi) {
                decided++;
            }
        }
        return decided;
    }

    /** The same sentence, with parts that are behind by one place, or by all. */
    private static void progressOfPartsThatAreBehind() {
        MetricLogMonitor m = new MetricLogMonitor();
        m.compare(false, 4, 4);
        m.until(0, 0, 0, 0);
        m.until(0, LATEST, 0, 0);
        m.not(1);
        m.exists(0, 1);
        m.join(true, 1, 0);
        m.join(false, 0, 1);
        m.since(0, ALWAYS, 1, 0);
        m.since(0, ALWAYS, 0, 1);
        m.join(true, 1, 2);
        m.join(false, 2, 1);
        m.since(0, ALWAYS, 2, 1);
        m.watch();
        for (int n = 0; n <= 24; n++) {
            if (n > 0) {
                m.place(n);
            }
            for (int f = 3; f <= 8; f++) {
                Due.due(n + " places: progress(" + f + "), one behind", m.progress(f), Math.max(0, n - 1));
            }
            for (int f = 9; f <= 11; f++) {
                Due.due(n + " places: progress(" + f + "), all behind", m.progress(f), 0);
            }
        }
    }

    /** "PREVIOUS f: the lesser of n and 1 + that of f.". */
    private static void progressOfPreviousBeforeAnUndecided() {
        MetricLogMonitor m = new MetricLogMonitor();
        m.compare(false, 4, 4);
        m.until(0, LATEST, 0, 0);
        m.previous(0, ALWAYS, 1);
        m.previous(0, ALWAYS, 2);
        m.until(0, 0, 0, 0);
        m.previous(0, ALWAYS, 4);
        m.previous(0, ALWAYS, 5);
        m.watch();
        for (int n = 0; n <= 24; n++) {
            if (n > 0) {
                m.place(n);
            }
            Due.due(n + " places: UNTIL 0 1000000", m.progress(1), 0);
            Due.due(n + " places: PREVIOUS of it", m.progress(2), Math.min(n, 1));
            Due.due(n + " places: PREVIOUS of that", m.progress(3), Math.min(n, 2));
            Due.due(n + " places: UNTIL 0 0", m.progress(4), Math.max(0, n - 1));
            Due.due(n + " places: PREVIOUS of it", m.progress(5), n);
            Due.due(n + " places: PREVIOUS of that", m.progress(6), n);
        }
        Due.due("PREVIOUS at its last decided place", m.satisfied(2, 0), 0);
        Due.due("PREVIOUS at its last decided place, rows", m.rows(2, 0), 0);
        Due.refused("PREVIOUS at its first undecided place, rows", m.rows(2, 1));
        Due.due("PREVIOUS of UNTIL 0 0 at place 23", m.satisfied(5, 23), -1);
    }

    /** "time(k) > time(i) + hi". */
    private static void progressOfUntilIsBeyondHi() {
        for (int hi : new int[] {0, 1, 7, LATEST - 1}) {
            for (int duration : new int[] {hi, hi + 1}) {
                for (int start : new int[] {0, LATEST - duration}) {
                    MetricLogMonitor m = new MetricLogMonitor();
                    m.compare(false, 4, 4);
                    m.until(0, hi, 0, 0);
                    m.until(hi, hi, 0, 0);
                    m.watch();
                    m.place(start);
                    m.place(start + duration);
                    int due = duration > hi ? 1 : 0;
                    Due.due("UNTIL 0 " + hi + " after " + duration, m.progress(1), due);
                    Due.due("UNTIL " + hi + " " + hi + " after " + duration, m.progress(2), due);
                    Due.due("UNTIL 0 " + hi + " after " + duration + ", satisfied", m.satisfied(1, 0), -due);
                }
            }
        }
    }

    private static void progressOfUntilIsOneLessThanAllAtMost() {
        MetricLogMonitor m = new MetricLogMonitor();
        m.compare(false, 4, 4);
        m.until(0, 0, 0, 0);
        m.watch();
        for (int n = 1; n <= 24; n++) {
            m.place(n);
            Due.due("UNTIL 0 0 over " + n + " places", m.progress(1), n - 1);
            Due.due("UNTIL 0 0 at the last place of " + n, m.satisfied(1, n - 1), 0);
            Due.refused("UNTIL 0 0 at the last place of " + n + ", rows", m.rows(1, n - 1));
        }
    }

    private static void progressOfUntilAmongPlacesOfOneTime() {
        MetricLogMonitor m = new MetricLogMonitor();
        m.compare(false, 4, 4);
        m.until(0, 0, 0, 0);
        m.watch();
        for (int n = 1; n <= 23; n++) {
            m.place(9);
            Due.due("UNTIL 0 0 over " + n + " places of one time", m.progress(1), 0);
        }
        m.place(10);
        Due.due("UNTIL 0 0 over 23 places of one time and one later", m.progress(1), 23);
    }

    /** "a place k <= m, k < n": the place at m itself may decide, the one after it may not. */
    private static void progressOfUntilByThePlaceAtTheLesserProgress() {
        MetricLogMonitor m = new MetricLogMonitor();
        m.compare(false, 4, 4);
        int inner = m.until(0, 10, 0, 0);
        int outerFirst = m.until(0, 0, inner, 0);
        int outerSecond = m.until(0, 0, 0, inner);
        int outerBoth = m.until(0, 0, inner, inner);
        int wide = m.until(0, 5, inner, 0);
        m.watch();
        int[] times = {0, 5, 11, 12, 16, 30};
        int[] innerDue = {0, 0, 1, 1, 2, 5};
        int[] outerDue = {0, 0, 1, 1, 2, 5};
        int[] wideDue = {0, 0, 0, 0, 2, 5};
        for (int i = 0; i < times.length; i++) {
            m.place(times[i]);
            Due.due("the inner UNTIL after place " + i, m.progress(inner), innerDue[i]);
            Due.due("the outer UNTIL, as f, after place " + i, m.progress(outerFirst), outerDue[i]);
            Due.due("the outer UNTIL, as g, after place " + i, m.progress(outerSecond), outerDue[i]);
            Due.due("the outer UNTIL, as both, after place " + i, m.progress(outerBoth), outerDue[i]);
            Due.due("the outer UNTIL 0 5 after place " + i, m.progress(wide), wideDue[i]);
        }
    }

    private static void progressOfUntilWithTheGreatestInterval() {
        MetricLogMonitor m = new MetricLogMonitor();
        m.compare(false, 4, 4);
        m.until(0, LATEST, 0, 0);
        m.until(LATEST, LATEST, 0, 0);
        m.until(0, LATEST - 1, 0, 0);
        m.watch();
        for (int i = 0; i < 24; i++) {
            m.place(i < 12 ? 0 : LATEST);
        }
        Due.due("UNTIL 0 1000000", m.progress(1), 0);
        Due.due("UNTIL 1000000 1000000", m.progress(2), 0);
        Due.due("UNTIL 0 999999", m.progress(3), 12);
    }

    /** Promise 17: "(0 when the monitor does not watch)". */
    private static void progressWithoutWatching() {
        for (Scene scene : Scene.ALL) {
            if (!scene.watching()) {
                for (int f = 0; f < scene.formulas(); f++) {
                    Edge.answers(scene, Call.progress(f), 0);
                }
            }
        }
    }

    /** Promises 10, 11, 12 and 17: "there is no formula f". */
    private static void progressOfFirstAndLastFormula() {
        Edge.answers(Scene.FULL_LOG, Call.progress(0), 24);
        Edge.answers(Scene.FULL_LOG, Call.progress(11), 24);
        for (Scene scene : Scene.ALL) {
            for (int f : Calls.noFormula(scene.formulas())) {
                Edge.refused(scene, Call.progress(f));
            }
        }
    }

    /** "at a place below its progress, does not depend on places that come later". */
    private static void decidedDoesNotDependOnLaterPlaces() {
        MetricLogMonitor[] full = {Scene.FULL_LOG.make(), Scene.FULL_LOG.make()};
        long[][] sets = new long[12][24];
        for (int f = 0; f < 12; f++) {
            for (int i = 0; i < 24; i++) {
                sets[f][i] = full[f / 6].satisfied(f, i);
            }
        }
        for (int n = 0; n < 24; n++) {
            MetricLogMonitor m = Scene.watching(12, n);
            for (int f = 0; f < 12; f++) {
                int progress = m.progress(f);
                for (int i = 0; i < progress; i++) {
                    Due.due(n + " places: satisfied(" + f + ", " + i + ")", m.satisfied(f, i), sets[f][i]);
                }
            }
        }
    }

    /** Promise 18: "i is below 0 or not below its progress". */
    private static void satisfiedAtTheFirstAndLastDecidedPlace() {
        for (int n = 0; n <= 24; n++) {
            MetricLogMonitor m = allAndUntil(n);
            for (int f = 0; f < 2; f++) {
                int progress = Math.max(0, n - f);
                for (int i = 0; i < progress; i++) {
                    Due.due(n + " places: satisfied(" + f + ", " + i + ")", m.satisfied(f, i), -1);
                }
                for (int i : new int[] {Calls.LEAST, -24, -1, progress, progress + 1, 24, 25, 32, 64, Calls.MOST}) {
                    Due.due(n + " places: satisfied(" + f + ", " + i + ")", m.satisfied(f, i), 0);
                }
            }
        }
    }

    /** Formula 0 is satisfied by all at each of n places; so is formula 1, but it is not decided at the last one. */
    private static MetricLogMonitor allAndUntil(int n) {
        MetricLogMonitor m = new MetricLogMonitor();
        m.compare(false, 4, 4);
        m.until(0, 0, 0, 0);
        m.watch();
        for (int i = 0; i < n; i++) {
            m.place(i);
        }
        return m;
    }

    /** Promise 18: "(-1 is the set of all 64)". */
    private static void satisfiedByAllIsNoRefusal() {
        MetricLogMonitor m = allAndUntil(1);
        Due.due("satisfied by all", m.satisfied(0, 0), -1L);
        Due.due("satisfied by all, rows", m.rows(0, 0), 1);
        Due.due("not decided is the empty set, not -1", m.satisfied(1, 0), 0);
        Due.due("no such formula is the empty set, not -1", m.satisfied(2, 0), 0);
    }

    /** Promise 18: "0 when there is no formula f". */
    private static void satisfiedOfNoFormula() {
        for (Scene scene : Scene.ALL) {
            for (int f : Calls.noFormula(scene.formulas())) {
                for (int i : new int[] {-1, 0, 23, 24}) {
                    Edge.answers(scene, Call.satisfied(f, i), 0);
                }
            }
        }
    }

    /** Promise 19: "i is below 0 or not below its progress". */
    private static void rowsAtTheFirstAndLastDecidedPlace() {
        for (int n = 0; n <= 24; n++) {
            MetricLogMonitor m = allAndUntil(n);
            for (int f = 0; f < 2; f++) {
                int progress = Math.max(0, n - f);
                for (int i = 0; i < progress; i++) {
                    Due.due(n + " places: rows(" + f + ", " + i + ")", m.rows(f, i), 1);
                }
                for (int i : new int[] {Calls.LEAST, -24, -1, progress, progress + 1, 24, 25, 32, 64, Calls.MOST}) {
                    Due.refused(n + " places: rows(" + f + ", " + i + ")", m.rows(f, i));
                }
            }
        }
    }

    /** Promise 19: "REFUSED when there is no formula f". */
    private static void rowsOfNoFormula() {
        for (Scene scene : Scene.ALL) {
            for (int f : Calls.noFormula(scene.formulas())) {
                for (int i : new int[] {-1, 0, 23, 24}) {
                    Edge.answers(scene, Call.rows(f, i), -1);
                }
            }
        }
    }

    /** Promise 19: "only one counted of all those that agree at the free variables of f", for each set of these. */
    private static void rowsOfNothingOneAndAll() {
        for (int free = 0; free < 8; free++) {
            int most = 1 << (2 * Integer.bitCount(free));
            MetricLogMonitor m = withFree(free, false);
            Due.due("free variables: " + free, m.free(10), free);
            Due.due("rows of all with free " + free, m.rows(10, 0), most);
            Due.due("rows of nothing with free " + free, m.rows(11, 0), 0);
            m = withFree(free, true);
            Due.due("rows of one with free " + free, m.rows(10, 0), 1);
            Due.due("rows of all but one with free " + free, m.rows(11, 0), most - 1);
        }
    }

    /**
     * Formula 10 has these free variables and is satisfied by all at place 0, or only by those that give each of them
     * the value 3; formula 11 is NOT of it.
     */
    private static MetricLogMonitor withFree(int free, boolean onlyThree) {
        MetricLogMonitor m = new MetricLogMonitor();
        int made = m.compare(false, 4, 4);
        for (int v = 0; v < 3; v++) {
            boolean isFree = (free & (1 << v)) != 0;
            int part = isFree ? m.compare(false, v, onlyThree ? 7 : v) : m.compare(false, 5, 5);
            made = m.join(true, made, part);
        }
        m.join(true, made, made);
        m.join(false, made, made);
        m.join(true, made, made);
        m.not(m.join(false, made, made));
        m.watch();
        m.place(0);
        return m;
    }

    /** Promise 19: "(so 1 at most, if there are none)". */
    private static void rowsWithoutFreeVariables() {
        MetricLogMonitor m = new MetricLogMonitor();
        m.atom(0, 0, 1);
        m.exists(0, 0);
        m.exists(1, 1);
        m.atom(1, 7, 7);
        m.watch();
        m.place(0);
        m.gather(0, 0, 0);
        m.gather(1, 3, 3);
        m.place(0);
        for (int pair = 0; pair < 16; pair++) {
            m.gather(0, pair / 4, pair % 4);
        }
        m.place(0);
        int[] atom = {0, 1, 16};
        int[] one = {0, 1, 4};
        int[] none = {0, 1, 1};
        int[] values = {0, 1, 0};
        for (int i = 0; i < 3; i++) {
            Due.due("rows: two free at " + i, m.rows(0, i), atom[i]);
            Due.due("rows: one free at " + i, m.rows(1, i), one[i]);
            Due.due("rows: none free at " + i, m.rows(2, i), none[i]);
            Due.due("rows: an atom of values at " + i, m.rows(3, i), values[i]);
        }
    }

    private static void askingChangesNothing() {
        for (Scene scene : Scene.ALL) {
            for (int f = 0; f < scene.formulas(); f++) {
                for (Call call : List.of(Call.free(f), Call.ranged(f), Call.bounded(f), Call.progress(f),
                        Call.satisfied(f, 0), Call.rows(f, 0), Call.satisfied(f, 5), Call.rows(f, 23))) {
                    Edge.changesNothing(scene, call);
                }
            }
        }
    }

    /** "An object is used for at most 512 calls after it has been made": the 512th is still promised. */
    private static void lastCallOfAnObject() {
        MetricLogMonitor m = new MetricLogMonitor();
        for (int call = 0; call < 504; call += 3) {
            m.atom(0, 0, 1);
            m.watch();
            m.stop(true);
        }
        Due.due("call 505", m.atom(0, 0, 1), 0);
        Due.due("call 506", m.not(0), 1);
        Due.due("call 507", m.watch(), true);
        Due.due("call 508", m.gather(0, 3, 3), true);
        Due.due("call 509", m.place(LATEST), 0);
        Due.due("call 510", m.progress(1), 1);
        Due.due("call 511", m.rows(1, 0), 15);
        Due.due("call 512", m.satisfied(0, 0), Sets.where(x -> x[0] == 3 && x[1] == 3));
    }
}
