import java.util.List;

/** Promises 10 to 12 at their edges: no variable and all three, each pair of terms, the deepest EXISTS, no formula. */
public final class VariablesEdgesTest {
    private static final int ALWAYS = MetricLogMonitor.ALWAYS;

    public static void main(String[] args) {
        atomsOfEachPairOfTerms();
        comparisonsOfEachPairOfTerms();
        noneAndAllThree();
        existsOfEachVariable();
        existsThatIsNotRangedAtAnyDepth();
        existsThatIsNotAPartDoesNotCount();
        freeAndRangedDependOnTheKind();
        firstAndLastFormula();
        noSuchFormula();
        watchingOrNot();
        Due.end();
    }

    private static int variables(int a, int b) {
        return (a < 3 ? 1 << a : 0) | (b < 3 ? 1 << b : 0);
    }

    private static void due(String what, MetricLogMonitor m, int f, int free, int ranged, boolean bounded) {
        Due.due(what + ": free", m.free(f), free);
        Due.due(what + ": ranged", m.ranged(f), ranged);
        Due.due(what + ": bounded", m.bounded(f), bounded);
    }

    /** "of ATOM ... those among its terms", free and ranged alike. */
    private static void atomsOfEachPairOfTerms() {
        for (int a : Calls.TERM) {
            for (int b : Calls.TERM) {
                MetricLogMonitor m = new MetricLogMonitor();
                m.atom(2, a, b);
                due("ATOM " + a + " " + b, m, 0, variables(a, b), variables(a, b), true);
            }
        }
    }

    /** "of EQUAL, when one term is a variable and the other a value, that variable, otherwise none; of LESS none". */
    private static void comparisonsOfEachPairOfTerms() {
        for (int a : Calls.TERM) {
            for (int b : Calls.TERM) {
                MetricLogMonitor m = new MetricLogMonitor();
                m.compare(false, a, b);
                m.compare(true, a, b);
                int free = variables(a, b);
                int ranged = a < 3 && b > 3 || a > 3 && b < 3 ? free : 0;
                due("EQUAL " + a + " " + b, m, 0, free, ranged, free == ranged);
                due("LESS " + a + " " + b, m, 1, free, 0, free == 0);
            }
        }
    }

    /** "the sum of 2 to the power of their numbers": from 0 to 7. */
    private static void noneAndAllThree() {
        for (int set = 0; set < 8; set++) {
            MetricLogMonitor m = new MetricLogMonitor();
            int made = m.atom(0, 4, 4);
            for (int v = 0; v < 3; v++) {
                if ((set & (1 << v)) != 0) {
                    made = m.join(true, made, m.atom(0, v, 4));
                }
            }
            due("variables " + set, m, made, set, set, true);
            due("NOT of variables " + set, m, m.not(made), set, 0, set == 0);
        }
    }

    /** "of EXISTS v f those of f but for v", for each variable that is there or not. */
    private static void existsOfEachVariable() {
        for (int a = 0; a < 3; a++) {
            for (int b = 0; b < 3; b++) {
                for (int v = 0; v < 3; v++) {
                    MetricLogMonitor m = new MetricLogMonitor();
                    m.atom(0, a, b);
                    m.exists(v, 0);
                    m.not(0);
                    m.exists(v, 2);
                    int all = variables(a, b);
                    int left = all & ~(1 << v);
                    String what = "EXISTS " + v + " ATOM " + a + " " + b;
                    due(what, m, 1, left, left, left != all);
                    due("EXISTS " + v + " NOT ATOM " + a + " " + b, m, 3, left, 0, false);
                }
            }
        }
    }

    /** "for each EXISTS v h that is the formula itself or that it is made of, at any depth". */
    private static void existsThatIsNotRangedAtAnyDepth() {
        MetricLogMonitor m = new MetricLogMonitor();
        m.compare(true, 1, 6);
        m.exists(1, 0);
        due("LESS itself", m, 0, 2, 0, false);
        due("the EXISTS itself", m, 1, 0, 0, false);
        for (int f = 2; f < 12; f++) {
            m.not(f - 1);
            due("NOT at depth " + (f - 1), m, f, 0, 0, false);
        }
        m = new MetricLogMonitor();
        m.compare(true, 1, 6);
        m.exists(1, 0);
        m.atom(0, 0, 4);
        int[] deep = {m.join(true, 2, 1), 0, 0, 0, 0, 0, 0, 0};
        deep[1] = m.join(false, deep[0], 2);
        deep[2] = m.previous(0, 1, deep[1]);
        deep[3] = m.since(0, ALWAYS, deep[2], 2);
        deep[4] = m.until(0, 1, 2, deep[3]);
        deep[5] = m.exists(0, deep[4]);
        deep[6] = m.since(0, 1, m.atom(0, 4, 4), deep[5]);
        deep[7] = m.until(0, 1, deep[5], 2);
        int[] free = {1, 1, 1, 1, 1, 0, 0, 1};
        int[] ranged = {1, 1, 1, 1, 1, 0, 0, 1};
        for (int n = 0; n < deep.length; n++) {
            due("EXISTS within kind after kind, " + n, m, deep[n], free[n], ranged[n], false);
        }
    }

    /** An EXISTS elsewhere among the formulas changes nothing. */
    private static void existsThatIsNotAPartDoesNotCount() {
        MetricLogMonitor m = new MetricLogMonitor();
        m.compare(true, 1, 6);
        m.exists(1, 0);
        m.atom(0, 1, 4);
        m.exists(1, 2);
        m.not(3);
        due("the atom", m, 2, 2, 2, true);
        due("EXISTS of the atom", m, 3, 0, 0, true);
        due("NOT of it", m, 4, 0, 0, true);
        due("AND of these", m, m.join(true, 2, 4), 2, 2, true);
        due("SINCE of these", m, m.since(0, 1, 4, 2), 2, 2, true);
        due("UNTIL of these", m, m.until(0, 1, 4, 2), 2, 2, true);
    }

    /** Each kind over the same two parts: f has 0 and 1 free and ranged, g has 1 and 2. */
    private static void freeAndRangedDependOnTheKind() {
        MetricLogMonitor m = new MetricLogMonitor();
        m.atom(0, 0, 1);
        m.atom(0, 1, 2);
        due("AND f g", m, m.join(true, 0, 1), 7, 7, true);
        due("OR f g", m, m.join(false, 0, 1), 7, 2, false);
        due("PREVIOUS f", m, m.previous(0, 1, 0), 3, 3, true);
        due("SINCE f g", m, m.since(0, 1, 0, 1), 7, 6, false);
        due("SINCE g f", m, m.since(0, 1, 1, 0), 7, 3, false);
        due("SINCE f f", m, m.since(0, 1, 0, 0), 3, 3, true);
        due("UNTIL f g", m, m.until(0, 1, 0, 1), 7, 6, false);
        due("UNTIL g f", m, m.until(0, 1, 1, 0), 7, 3, false);
        due("UNTIL g g", m, m.until(0, 1, 1, 1), 6, 6, true);
        due("NOT f", m, m.not(0), 3, 0, false);
    }

    /** The numbers 0 and 11 are those of a formula when there are twelve. */
    private static void firstAndLastFormula() {
        for (Scene scene : List.of(Scene.TWELVE, Scene.FULL_LOG, Scene.STOPPED_FULL)) {
            Edge.answers(scene, Call.free(0), 3);
            Edge.answers(scene, Call.ranged(0), 3);
            Edge.answers(scene, Call.bounded(0), 1);
            Edge.answers(scene, Call.free(11), 3);
            Edge.answers(scene, Call.ranged(11), 0);
            Edge.answers(scene, Call.bounded(11), 0);
        }
        Edge.refused(Scene.ELEVEN, Call.free(11));
        Edge.refused(Scene.ELEVEN, Call.ranged(11));
        Edge.refused(Scene.ELEVEN, Call.bounded(11));
    }

    /** "REFUSED when there is no formula f", and "Whether there is a formula f and it is bounded". */
    private static void noSuchFormula() {
        for (Scene scene : Scene.ALL) {
            for (int f : Calls.noFormula(scene.formulas())) {
                Edge.refused(scene, Call.free(f));
                Edge.refused(scene, Call.ranged(f));
                Edge.refused(scene, Call.bounded(f));
            }
        }
    }

    /** "(watching or not)". */
    private static void watchingOrNot() {
        for (int f = 0; f < 11; f++) {
            for (Call call : List.of(Call.free(f), Call.ranged(f), Call.bounded(f))) {
                long due = call.on(Scene.ELEVEN.make());
                for (Scene scene : List.of(Scene.NO_PLACES, Scene.SOME, Scene.FULL_LOG, Scene.STOPPED)) {
                    Edge.answers(scene, call, due);
                }
            }
        }
    }
}
