/** Promises 10 to 12: the free and the ranged variables, and which formulas are bounded. */
public final class VariablesTest {
    private static MetricLogMonitor m;

    public static void main(String[] args) {
        atoms();
        comparisons();
        nots();
        joins();
        quantifiers();
        pastAndFuture();
        unrangedExistsAtAnyDepth();
        noSuchFormula();
        watchingOrNot();
        Due.end();
    }

    /** What is due of formula f. */
    private static void expect(String what, int f, int free, int ranged, boolean bounded) {
        Due.due(what + ": free(" + f + ")", m.free(f), free);
        Due.due(what + ": ranged(" + f + ")", m.ranged(f), ranged);
        Due.due(what + ": bounded(" + f + ")", m.bounded(f), bounded);
    }

    private static void atoms() {
        m = new MetricLogMonitor();
        expect("ATOM 0 1", m.atom(0, 0, 1), 3, 3, true);
        expect("ATOM 2 0", m.atom(0, 2, 0), 5, 5, true);
        expect("ATOM 2 2", m.atom(0, 2, 2), 4, 4, true);
        expect("ATOM value 1", m.atom(0, 4, 1), 2, 2, true);
        expect("ATOM 1 value", m.atom(0, 1, 7), 2, 2, true);
        expect("ATOM value value", m.atom(0, 4, 5), 0, 0, true);
    }

    private static void comparisons() {
        m = new MetricLogMonitor();
        expect("EQUAL 2 value", m.compare(false, 2, 4), 4, 4, true);
        expect("EQUAL value 1", m.compare(false, 7, 1), 2, 2, true);
        expect("EQUAL 0 1", m.compare(false, 0, 1), 3, 0, false);
        expect("EQUAL 0 0", m.compare(false, 0, 0), 1, 0, false);
        expect("EQUAL value value", m.compare(false, 4, 5), 0, 0, true);
        expect("LESS 2 value", m.compare(true, 2, 4), 4, 0, false);
        expect("LESS value 1", m.compare(true, 7, 1), 2, 0, false);
        expect("LESS 0 1", m.compare(true, 0, 1), 3, 0, false);
        expect("LESS value value", m.compare(true, 4, 5), 0, 0, true);
    }

    private static void nots() {
        m = new MetricLogMonitor();
        m.atom(0, 0, 2);
        m.atom(0, 4, 4);
        expect("NOT of an atom", m.not(0), 5, 0, false);
        expect("NOT without free variables", m.not(1), 0, 0, true);
        expect("NOT of NOT", m.not(2), 5, 0, false);
    }

    private static void joins() {
        m = new MetricLogMonitor();
        m.atom(0, 0, 1);
        m.atom(1, 1, 2);
        m.compare(true, 0, 1);
        m.not(0);
        expect("AND", m.join(true, 0, 1), 7, 7, true);
        expect("OR", m.join(false, 0, 1), 7, 2, false);
        expect("AND with LESS", m.join(true, 2, 0), 3, 3, true);
        expect("OR with LESS", m.join(false, 0, 2), 3, 0, false);
        expect("AND with NOT", m.join(true, 1, 3), 7, 6, false);
        expect("OR of the same", m.join(false, 1, 1), 6, 6, true);
    }

    private static void quantifiers() {
        m = new MetricLogMonitor();
        m.atom(0, 0, 1);
        m.not(0);
        expect("EXISTS 0", m.exists(0, 0), 2, 2, true);
        expect("EXISTS 1", m.exists(1, 0), 1, 1, true);
        expect("EXISTS of a variable that is not free", m.exists(2, 0), 3, 3, false);
        expect("EXISTS of one that is not ranged", m.exists(0, 1), 2, 0, false);
        expect("EXISTS EXISTS", m.exists(1, 2), 0, 0, true);
        expect("EXISTS of one that is gone", m.exists(0, 2), 2, 2, false);
    }

    private static void pastAndFuture() {
        m = new MetricLogMonitor();
        m.atom(0, 0, 1);
        m.atom(0, 1, 2);
        m.compare(true, 2, 4);
        expect("PREVIOUS", m.previous(0, 1, 0), 3, 3, true);
        expect("PREVIOUS of LESS", m.previous(0, 1, 2), 4, 0, false);
        expect("SINCE has g's ranged", m.since(0, 1, 0, 1), 7, 6, false);
        expect("UNTIL has g's ranged", m.until(0, 1, 1, 0), 7, 3, false);
        expect("SINCE with f's free among g's ranged", m.since(0, 1, 2, 1), 6, 6, true);
        expect("UNTIL with f's free among g's ranged", m.until(0, 1, 2, 1), 6, 6, true);
        expect("SINCE, g not ranged", m.since(0, 1, 1, 2), 6, 0, false);
        expect("UNTIL, g not ranged", m.until(0, 1, 1, 2), 6, 0, false);
    }

    private static void unrangedExistsAtAnyDepth() {
        m = unrangedExists();
        expect("deep: the EXISTS", 2, 0, 0, false);
        expect("deep: NOT", m.not(2), 0, 0, false);
        expect("deep: NOT NOT", m.not(3), 0, 0, false);
        expect("deep: AND first", m.join(true, 2, 0), 1, 1, false);
        expect("deep: AND second", m.join(true, 0, 4), 1, 1, false);
        expect("deep: OR first", m.join(false, 2, 2), 0, 0, false);
        expect("deep: PREVIOUS", m.previous(0, 1, 5), 1, 1, false);
        expect("deep: EXISTS", m.exists(0, 5), 0, 0, false);
        m = unrangedExists();
        expect("deep: SINCE first", m.since(0, 1, 2, 0), 1, 1, false);
        expect("deep: UNTIL first", m.until(0, 1, 2, 0), 1, 1, false);
        m.compare(false, 4, 4);
        expect("deep: SINCE second", m.since(0, 1, 5, 2), 0, 0, false);
        expect("deep: UNTIL second", m.until(0, 1, 5, 2), 0, 0, false);
        expect("deep: a formula without it stays bounded", m.since(0, 1, 0, 0), 1, 1, true);
    }

    /** Formula 0 is an atom of variable 0; formula 2, EXISTS 1 LESS 1 value, has none free and is not bounded. */
    private static MetricLogMonitor unrangedExists() {
        MetricLogMonitor made = new MetricLogMonitor();
        made.atom(0, 0, 4);
        made.compare(true, 1, 7);
        made.exists(1, 1);
        return made;
    }

    private static void noSuchFormula() {
        m = new MetricLogMonitor();
        m.atom(0, 0, 1);
        for (int bad : new int[] {-1, 1, 12, Integer.MIN_VALUE, Integer.MAX_VALUE}) {
            Due.refused("free(" + bad + ")", m.free(bad));
            Due.refused("ranged(" + bad + ")", m.ranged(bad));
            Due.due("bounded(" + bad + ")", m.bounded(bad), false);
        }
        m.stop(true);
        Due.refused("free(0) after stop(true)", m.free(0));
        Due.refused("ranged(0) after stop(true)", m.ranged(0));
        Due.due("bounded(0) after stop(true)", m.bounded(0), false);
    }

    private static void watchingOrNot() {
        m = new MetricLogMonitor();
        m.atom(0, 0, 1);
        m.exists(1, 0);
        m.watch();
        m.place(0);
        expect("watching", 0, 3, 3, true);
        expect("watching", 1, 1, 1, true);
        m.stop(false);
        expect("after stop(false)", 0, 3, 3, true);
        expect("after stop(false)", 1, 1, 1, true);
    }
}
