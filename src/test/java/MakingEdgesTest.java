import java.util.List;

/** Promises 1 to 9 at their edges: the last arguments that are taken on each side and the first that are not. */
public final class MakingEdgesTest {
    private static final int LEAST = Calls.LEAST;
    private static final int MOST = Calls.MOST;
    private static final int LATEST = Calls.LATEST;

    public static void main(String[] args) {
        newObjectHasNoFormulas();
        newObjectDoesNotWatch();
        newObjectHasAnEmptyLog();
        newObjectsShareNothing();
        atomOfEachRelation();
        atomOfEachTerm();
        atomOfWrongArgumentsTogether();
        compareOfEachTerm();
        compareOfWrongArgumentsTogether();
        notOfFirstAndLastFormula();
        joinOfFirstAndLastFormula();
        joinOfTheSameFormula();
        existsOfEachVariable();
        existsOfFirstAndLastFormula();
        previousOfEachInterval();
        previousOfFirstAndLastFormula();
        sinceOfEachInterval();
        sinceOfFirstAndLastFormula();
        sinceOfTheSameFormula();
        untilOfEachInterval();
        untilIsNotForAlways();
        untilOfFirstAndLastFormula();
        untilOfTheSameFormula();
        noFormulaIsMadeOfItselfOrOfALaterOne();
        nothingIsMadeOfNoFormulas();
        twelfthIsMadeThirteenthIsNot();
        nothingIsMadeWhileWatching();
        madeAgainAfterStop();
        Due.end();
    }

    /** Promise 1: "No formulas". */
    private static void newObjectHasNoFormulas() {
        for (int f : new int[] {LEAST, -1, 0, 1, 11, 12, MOST}) {
            for (Call call : List.of(Call.free(f), Call.ranged(f), Call.bounded(f), Call.progress(f),
                    Call.satisfied(f, 0), Call.rows(f, 0))) {
                Edge.refused(Scene.EMPTY, call);
            }
        }
        Edge.refused(Scene.EMPTY, Call.watch());
        Edge.answers(Scene.EMPTY, Call.atom(0, 0, 0), 0);
        Edge.answers(Scene.EMPTY, Call.compare(false, 0, 0), 0);
    }

    /** Promise 1: "not watching". */
    private static void newObjectDoesNotWatch() {
        Edge.refused(Scene.EMPTY, Call.gather(0, 0, 0));
        Edge.refused(Scene.EMPTY, Call.place(0));
        Edge.refused(Scene.ONE, Call.gather(0, 0, 0));
        Edge.refused(Scene.ONE, Call.place(0));
        Edge.answers(Scene.ONE, Call.watch(), 1);
    }

    /** Promise 1: "an empty log". */
    private static void newObjectHasAnEmptyLog() {
        MetricLogMonitor m = new MetricLogMonitor();
        m.compare(false, 4, 4);
        Due.due("new: progress(0)", m.progress(0), 0);
        Due.due("new: satisfied(0, 0)", m.satisfied(0, 0), 0);
        Due.refused("new: rows(0, 0)", m.rows(0, 0));
        m.watch();
        Due.due("new, watching: progress(0)", m.progress(0), 0);
        Due.due("new, watching: place(0)", m.place(0), 0);
        Due.due("new, watching: nothing was gathered", m.gather(0, 0, 0), true);
    }

    /** Promise 1, while an earlier object is in use: neither has anything of the other. */
    private static void newObjectsShareNothing() {
        MetricLogMonitor first = Scene.FULL_LOG.make();
        MetricLogMonitor second = new MetricLogMonitor();
        Due.due("a second object: watch()", second.watch(), false);
        Due.due("a second object: gather(0, 0, 0)", second.gather(0, 0, 0), false);
        Due.due("a second object: its first formula", second.atom(0, 0, 1), 0);
        Due.refused("a second object: no second formula", second.free(1));
        second.watch();
        Due.due("a second object: nothing is gathered", second.gather(0, 0, 2), true);
        Due.due("a second object: its first place", second.place(0), 0);
        Due.due("a second object: its first set", second.satisfied(0, 0), Sets.where(x -> x[0] == 0 && x[1] == 2));
        second.stop(true);
        Due.due("the first object: its log stays", first.progress(0), 24);
        Due.due("the first object: its sets stay", first.satisfied(0, 0), Sets.where(x -> x[0] == 0 && x[1] == 0));
        Due.due("the first object: its formulas stay", first.free(11), 3);
        Due.due("the first object: it still watches", first.watch(), false);
    }

    /** Promise 2: "relation is not 0 .. 2". */
    private static void atomOfEachRelation() {
        for (int relation = 0; relation <= 2; relation++) {
            Edge.answers(Scene.EMPTY, Call.atom(relation, 0, 1), 0);
            Edge.answers(Scene.ELEVEN, Call.atom(relation, 0, 1), 11);
        }
        for (int relation : Calls.NO_RELATION) {
            Edge.refused(Scene.EMPTY, Call.atom(relation, 0, 1));
            Edge.refused(Scene.ELEVEN, Call.atom(relation, 0, 1));
        }
    }

    /** Promise 2: "a or b is no term". */
    private static void atomOfEachTerm() {
        for (int a : Calls.TERM) {
            for (int b : Calls.TERM) {
                Edge.answers(Scene.EMPTY, Call.atom(2, a, b), 0);
            }
            for (int bad : Calls.NO_TERM) {
                Edge.refused(Scene.EMPTY, Call.atom(2, a, bad));
                Edge.refused(Scene.EMPTY, Call.atom(2, bad, a));
            }
        }
    }

    /** Promise 2: any one of its reasons is enough, and so are several. */
    private static void atomOfWrongArgumentsTogether() {
        for (int relation : Calls.NO_RELATION) {
            for (int term : Calls.NO_TERM) {
                Edge.refused(Scene.ONE, Call.atom(relation, term, 0));
                Edge.refused(Scene.ONE, Call.atom(relation, 0, term));
                Edge.refused(Scene.ONE, Call.atom(relation, term, term));
            }
        }
    }

    /** Promise 3: "a or b is no term". */
    private static void compareOfEachTerm() {
        for (boolean less : new boolean[] {false, true}) {
            for (int a : Calls.TERM) {
                for (int b : Calls.TERM) {
                    Edge.answers(Scene.EMPTY, Call.compare(less, a, b), 0);
                }
                for (int bad : Calls.NO_TERM) {
                    Edge.refused(Scene.EMPTY, Call.compare(less, a, bad));
                    Edge.refused(Scene.EMPTY, Call.compare(less, bad, a));
                }
            }
        }
    }

    private static void compareOfWrongArgumentsTogether() {
        for (boolean less : new boolean[] {false, true}) {
            for (int a : Calls.NO_TERM) {
                for (int b : Calls.NO_TERM) {
                    Edge.refused(Scene.ELEVEN, Call.compare(less, a, b));
                }
            }
        }
    }

    /** Promise 4: "there is no formula f". */
    private static void notOfFirstAndLastFormula() {
        Edge.answers(Scene.ONE, Call.not(0), 1);
        Edge.answers(Scene.ELEVEN, Call.not(0), 11);
        Edge.answers(Scene.ELEVEN, Call.not(10), 11);
        for (Scene scene : List.of(Scene.EMPTY, Scene.ONE, Scene.ELEVEN)) {
            for (int f : Calls.noFormula(scene.formulas())) {
                Edge.refused(scene, Call.not(f));
            }
        }
    }

    /** Promise 5: "there is no formula f or g". */
    private static void joinOfFirstAndLastFormula() {
        for (boolean both : new boolean[] {false, true}) {
            Edge.answers(Scene.ELEVEN, Call.join(both, 0, 10), 11);
            Edge.answers(Scene.ELEVEN, Call.join(both, 10, 0), 11);
            for (Scene scene : List.of(Scene.EMPTY, Scene.ONE, Scene.ELEVEN)) {
                for (int bad : Calls.noFormula(scene.formulas())) {
                    Edge.refused(scene, Call.join(both, bad, 0));
                    Edge.refused(scene, Call.join(both, 0, bad));
                    Edge.refused(scene, Call.join(both, bad, bad));
                }
            }
        }
    }

    /** "they may be the same". */
    private static void joinOfTheSameFormula() {
        for (boolean both : new boolean[] {false, true}) {
            Edge.answers(Scene.ONE, Call.join(both, 0, 0), 1);
            Edge.answers(Scene.ELEVEN, Call.join(both, 10, 10), 11);
        }
    }

    /** Promise 6: "v is not 0 .. 2". */
    private static void existsOfEachVariable() {
        for (int v = 0; v <= 2; v++) {
            Edge.answers(Scene.ONE, Call.exists(v, 0), 1);
        }
        for (int v : Calls.NO_VARIABLE) {
            Edge.refused(Scene.ONE, Call.exists(v, 0));
            Edge.refused(Scene.ELEVEN, Call.exists(v, 10));
        }
        // A value's term is no variable.
        for (int v = 4; v <= 7; v++) {
            Edge.refused(Scene.ONE, Call.exists(v, 0));
        }
    }

    /** Promise 6: "there is no formula f". */
    private static void existsOfFirstAndLastFormula() {
        Edge.answers(Scene.ELEVEN, Call.exists(2, 0), 11);
        Edge.answers(Scene.ELEVEN, Call.exists(2, 10), 11);
        for (Scene scene : List.of(Scene.EMPTY, Scene.ONE, Scene.ELEVEN)) {
            for (int f : Calls.noFormula(scene.formulas())) {
                Edge.refused(scene, Call.exists(0, f));
                Edge.refused(scene, Call.exists(3, f));
            }
        }
    }

    /** Promise 7: "lo, hi is no interval (for this kind)". */
    private static void previousOfEachInterval() {
        for (int[] good : Calls.INTERVAL) {
            Edge.answers(Scene.ONE, Call.previous(good[0], good[1], 0), 1);
        }
        for (int[] good : Calls.PAST_INTERVAL_ONLY) {
            Edge.answers(Scene.ONE, Call.previous(good[0], good[1], 0), 1);
        }
        for (int[] bad : Calls.NO_INTERVAL) {
            Edge.refused(Scene.ONE, Call.previous(bad[0], bad[1], 0));
        }
    }

    /** Promise 7: "there is no formula f". */
    private static void previousOfFirstAndLastFormula() {
        Edge.answers(Scene.ELEVEN, Call.previous(0, 0, 0), 11);
        Edge.answers(Scene.ELEVEN, Call.previous(0, 0, 10), 11);
        for (Scene scene : List.of(Scene.EMPTY, Scene.ONE, Scene.ELEVEN)) {
            for (int f : Calls.noFormula(scene.formulas())) {
                Edge.refused(scene, Call.previous(0, 0, f));
                Edge.refused(scene, Call.previous(0, Calls.ALWAYS, f));
                Edge.refused(scene, Call.previous(1, 0, f));
            }
        }
    }

    /** Promise 8: "lo, hi is no interval (for this kind)". */
    private static void sinceOfEachInterval() {
        for (int[] good : Calls.INTERVAL) {
            Edge.answers(Scene.ONE, Call.since(good[0], good[1], 0, 0), 1);
        }
        for (int[] good : Calls.PAST_INTERVAL_ONLY) {
            Edge.answers(Scene.ONE, Call.since(good[0], good[1], 0, 0), 1);
        }
        for (int[] bad : Calls.NO_INTERVAL) {
            Edge.refused(Scene.ONE, Call.since(bad[0], bad[1], 0, 0));
        }
    }

    /** Promise 8: "there is no formula f or g". */
    private static void sinceOfFirstAndLastFormula() {
        Edge.answers(Scene.ELEVEN, Call.since(0, 0, 0, 10), 11);
        Edge.answers(Scene.ELEVEN, Call.since(0, 0, 10, 0), 11);
        for (Scene scene : List.of(Scene.EMPTY, Scene.ONE, Scene.ELEVEN)) {
            for (int bad : Calls.noFormula(scene.formulas())) {
                Edge.refused(scene, Call.since(0, 0, bad, 0));
                Edge.refused(scene, Call.since(0, 0, 0, bad));
                Edge.refused(scene, Call.since(0, Calls.ALWAYS, bad, bad));
            }
        }
    }

    /** "they may be the same". */
    private static void sinceOfTheSameFormula() {
        Edge.answers(Scene.ELEVEN, Call.since(0, 0, 0, 0), 11);
        Edge.answers(Scene.ELEVEN, Call.since(0, 0, 10, 10), 11);
    }

    /** Promise 9: "lo, hi is no interval (for this kind". */
    private static void untilOfEachInterval() {
        for (int[] good : Calls.INTERVAL) {
            Edge.answers(Scene.ONE, Call.until(good[0], good[1], 0, 0), 1);
        }
        for (int[] bad : Calls.NO_INTERVAL) {
            Edge.refused(Scene.ONE, Call.until(bad[0], bad[1], 0, 0));
        }
    }

    /** Promise 9: "hi is not ALWAYS". */
    private static void untilIsNotForAlways() {
        for (int lo : new int[] {LEAST, -1, 0, 1, LATEST, LATEST + 1, MOST}) {
            Edge.refused(Scene.ONE, Call.until(lo, Calls.ALWAYS, 0, 0));
            Edge.refused(Scene.ELEVEN, Call.until(lo, Calls.ALWAYS, 0, 10));
        }
    }

    /** Promise 9: "there is no formula f or g". */
    private static void untilOfFirstAndLastFormula() {
        Edge.answers(Scene.ELEVEN, Call.until(0, 0, 0, 10), 11);
        Edge.answers(Scene.ELEVEN, Call.until(0, 0, 10, 0), 11);
        for (Scene scene : List.of(Scene.EMPTY, Scene.ONE, Scene.ELEVEN)) {
            for (int bad : Calls.noFormula(scene.formulas())) {
                Edge.refused(scene, Call.until(0, 0, bad, 0));
                Edge.refused(scene, Call.until(0, 0, 0, bad));
                Edge.refused(scene, Call.until(0, Calls.ALWAYS, bad, bad));
            }
        }
    }

    /** "they may be the same". */
    private static void untilOfTheSameFormula() {
        Edge.answers(Scene.ELEVEN, Call.until(0, 0, 0, 0), 11);
        Edge.answers(Scene.ELEVEN, Call.until(0, 0, 10, 10), 11);
    }

    /** "f and g are formulas made earlier": the number that the formula itself would get is none of them. */
    private static void noFormulaIsMadeOfItselfOrOfALaterOne() {
        for (Scene scene : List.of(Scene.EMPTY, Scene.ONE, Scene.ELEVEN)) {
            for (int f = scene.formulas(); f <= scene.formulas() + 1; f++) {
                for (Call call : List.of(Call.not(f), Call.join(true, f, f), Call.join(false, f, f), Call.exists(0, f),
                        Call.previous(0, 1, f), Call.since(0, 1, f, f), Call.until(0, 1, f, f))) {
                    Edge.refused(scene, call);
                }
            }
        }
    }

    private static void nothingIsMadeOfNoFormulas() {
        for (Scene scene : List.of(Scene.EMPTY, Scene.FORGOTTEN)) {
            for (Call call : List.of(Call.not(0), Call.join(true, 0, 0), Call.join(false, 0, 0), Call.exists(0, 0),
                    Call.previous(0, 1, 0), Call.since(0, 1, 0, 0), Call.until(0, 1, 0, 0))) {
                Edge.refused(scene, call);
            }
        }
    }

    /** "there are 12 formulas": every kind may be the twelfth, none the thirteenth, also after a stop. */
    private static void twelfthIsMadeThirteenthIsNot() {
        for (Call call : Calls.goodMakings()) {
            Edge.answers(Scene.ELEVEN, call, 11);
            Edge.answers(Scene.STOPPED, call, 11);
            Edge.refused(Scene.TWELVE, call);
            Edge.refused(Scene.STOPPED_FULL, call);
        }
        for (Call call : Calls.goodMakings()) {
            MetricLogMonitor m = Scene.ELEVEN.make();
            call.on(m);
            Due.refused("the thirteenth after " + call.text(), m.not(11));
            Due.refused("the thirteenth after " + call.text(), m.free(12));
        }
    }

    /** "the monitor watches". */
    private static void nothingIsMadeWhileWatching() {
        for (Call call : Calls.goodMakings()) {
            Edge.refused(Scene.NO_PLACES, call);
            Edge.refused(Scene.SOME, call);
            Edge.refused(Scene.FULL_LOG, call);
        }
    }

    private static void madeAgainAfterStop() {
        for (Call call : Calls.goodMakings()) {
            Edge.answers(Scene.STOPPED, call, 11);
        }
        Edge.answers(Scene.FORGOTTEN, Call.atom(0, 0, 1), 0);
        Edge.answers(Scene.FORGOTTEN, Call.compare(false, 0, 1), 0);
        Edge.answers(Scene.FORGOTTEN, Call.compare(true, 0, 1), 0);
    }
}
