/** Promises 1 to 9: a new object, and the calls that make formulas, with what satisfies each kind. */
public final class MakingTest {
    private static final int ALWAYS = MetricLogMonitor.ALWAYS;
    private static final int LEAST = Integer.MIN_VALUE;
    private static final int MOST = Integer.MAX_VALUE;

    public static void main(String[] args) {
        newObject();
        atom();
        atomRefused();
        compare();
        compareRefused();
        not();
        notRefused();
        join();
        joinRefused();
        exists();
        existsRefused();
        previous();
        previousRefused();
        since();
        sinceRefused();
        until();
        untilRefused();
        madeOneAfterTheOther();
        nothingIsMadeWhileWatching();
        thirteenthIsRefused();
        Due.end();
    }

    private static void newObject() {
        MetricLogMonitor m = new MetricLogMonitor();
        Due.refused("new: free(0)", m.free(0));
        Due.refused("new: ranged(0)", m.ranged(0));
        Due.due("new: bounded(0)", m.bounded(0), false);
        Due.refused("new: progress(0)", m.progress(0));
        Due.due("new: satisfied(0, 0)", m.satisfied(0, 0), 0);
        Due.refused("new: rows(0, 0)", m.rows(0, 0));
        Due.due("new: gather(0, 0, 0)", m.gather(0, 0, 0), false);
        Due.refused("new: place(0)", m.place(0));
        Due.due("new: watch()", m.watch(), false);
        Due.due("new: the first formula", m.compare(false, 4, 4), 0);
        Due.due("new: progress of it", m.progress(0), 0);
        Due.due("new: it can watch then", m.watch(), true);
        Due.due("new: the first place", m.place(0), 0);
    }

    private static void atom() {
        MetricLogMonitor m = new MetricLogMonitor();
        Due.due("atom(0, 0, 1)", m.atom(0, 0, 1), 0);
        Due.due("atom(1, 2, 7)", m.atom(1, 2, 7), 1);
        Due.due("atom(2, 4, 2)", m.atom(2, 4, 2), 2);
        Due.due("atom(0, 5, 6)", m.atom(0, 5, 6), 3);
        Due.due("atom(0, 6, 5)", m.atom(0, 6, 5), 4);
        Due.due("atom(0, 1, 1)", m.atom(0, 1, 1), 5);
        Due.due("atom(1, 0, 1)", m.atom(1, 0, 1), 6);
        m.watch();
        m.gather(0, 1, 2);
        m.gather(0, 3, 3);
        m.gather(1, 0, 3);
        m.gather(2, 0, 1);
        m.gather(2, 1, 3);
        m.place(0);
        Due.due("atom: two variables", m.satisfied(0, 0),
                Sets.where(x -> x[0] == 1 && x[1] == 2 || x[0] == 3 && x[1] == 3));
        Due.due("atom: a variable and a value", m.satisfied(1, 0), Sets.at(2, 0));
        Due.due("atom: a value and a variable", m.satisfied(2, 0), Sets.at(2, 1));
        Due.due("atom: two values, the pair holds", m.satisfied(3, 0), Sets.ALL);
        Due.due("atom: the pair is ordered", m.satisfied(4, 0), 0);
        Due.due("atom: one variable twice", m.satisfied(5, 0), Sets.at(1, 3));
        Due.due("atom: its own relation only", m.satisfied(6, 0), Sets.where(x -> x[0] == 0 && x[1] == 3));
        m.place(0);
        Due.due("atom: its own place only", m.satisfied(0, 1), 0);
    }

    private static void atomRefused() {
        MetricLogMonitor m = new MetricLogMonitor();
        for (int bad : new int[] {-1, 3, 4, LEAST, MOST}) {
            Due.refused("atom(" + bad + ", 0, 0)", m.atom(bad, 0, 0));
        }
        for (int bad : new int[] {-1, 3, 8, LEAST, MOST}) {
            Due.refused("atom(0, " + bad + ", 0)", m.atom(0, bad, 0));
            Due.refused("atom(0, 0, " + bad + ")", m.atom(0, 0, bad));
        }
        Due.refused("atom: nothing was made", m.free(0));
        Due.due("atom: the next number", m.atom(2, 7, 4), 0);
    }

    private static void compare() {
        MetricLogMonitor m = new MetricLogMonitor();
        Due.due("compare(true, 0, 2)", m.compare(true, 0, 2), 0);
        Due.due("compare(false, 0, 2)", m.compare(false, 0, 2), 1);
        Due.due("compare(true, 1, 6)", m.compare(true, 1, 6), 2);
        Due.due("compare(true, 6, 1)", m.compare(true, 6, 1), 3);
        Due.due("compare(false, 7, 1)", m.compare(false, 7, 1), 4);
        Due.due("compare(true, 4, 5)", m.compare(true, 4, 5), 5);
        Due.due("compare(true, 5, 5)", m.compare(true, 5, 5), 6);
        Due.due("compare(false, 5, 5)", m.compare(false, 5, 5), 7);
        Due.due("compare(false, 2, 2)", m.compare(false, 2, 2), 8);
        m.watch();
        m.place(3);
        Due.due("less: two variables", m.satisfied(0, 0), Sets.where(x -> x[0] < x[2]));
        Due.due("equal: two variables", m.satisfied(1, 0), Sets.where(x -> x[0] == x[2]));
        Due.due("less: a variable and a value", m.satisfied(2, 0), Sets.at(1, 0, 1));
        Due.due("less: a value and a variable", m.satisfied(3, 0), Sets.at(1, 3));
        Due.due("equal: a value and a variable", m.satisfied(4, 0), Sets.at(1, 3));
        Due.due("less: two values", m.satisfied(5, 0), Sets.ALL);
        Due.due("less: the same value", m.satisfied(6, 0), 0);
        Due.due("equal: the same value", m.satisfied(7, 0), Sets.ALL);
        Due.due("equal: the same variable", m.satisfied(8, 0), Sets.ALL);
    }

    private static void compareRefused() {
        MetricLogMonitor m = new MetricLogMonitor();
        for (int bad : new int[] {-1, 3, 8, LEAST, MOST}) {
            for (boolean less : new boolean[] {false, true}) {
                Due.refused("compare(" + less + ", " + bad + ", 0)", m.compare(less, bad, 0));
                Due.refused("compare(" + less + ", 0, " + bad + ")", m.compare(less, 0, bad));
            }
        }
        Due.refused("compare: nothing was made", m.free(0));
        Due.due("compare: the next number", m.compare(true, 7, 4), 0);
    }

    private static void not() {
        MetricLogMonitor m = new MetricLogMonitor();
        m.atom(0, 0, 5);
        Due.due("not(0)", m.not(0), 1);
        Due.due("not(1)", m.not(1), 2);
        m.watch();
        m.gather(0, 2, 1);
        m.place(0);
        m.place(0);
        Due.due("not", m.satisfied(1, 0), Sets.at(0, 0, 1, 3));
        Due.due("not of not", m.satisfied(2, 0), Sets.at(0, 2));
        Due.due("not of nothing", m.satisfied(1, 1), Sets.ALL);
        Due.due("not of all", m.satisfied(2, 1), 0);
    }

    private static void notRefused() {
        MetricLogMonitor m = new MetricLogMonitor();
        Due.refused("not(0) without formulas", m.not(0));
        m.atom(0, 0, 0);
        for (int bad : new int[] {-1, 1, 12, LEAST, MOST}) {
            Due.refused("not(" + bad + ")", m.not(bad));
        }
        Due.due("not: the next number", m.not(0), 1);
    }

    private static void join() {
        MetricLogMonitor m = new MetricLogMonitor();
        m.atom(0, 0, 4);
        m.atom(1, 1, 4);
        Due.due("join(true, 0, 1)", m.join(true, 0, 1), 2);
        Due.due("join(false, 0, 1)", m.join(false, 0, 1), 3);
        Due.due("join(true, 1, 1)", m.join(true, 1, 1), 4);
        Due.due("join(false, 1, 1)", m.join(false, 1, 1), 5);
        m.watch();
        m.gather(0, 1, 0);
        m.gather(1, 2, 0);
        m.place(0);
        Due.due("and", m.satisfied(2, 0), Sets.where(x -> x[0] == 1 && x[1] == 2));
        Due.due("or", m.satisfied(3, 0), Sets.where(x -> x[0] == 1 || x[1] == 2));
        Due.due("and of the same", m.satisfied(4, 0), Sets.at(1, 2));
        Due.due("or of the same", m.satisfied(5, 0), Sets.at(1, 2));
    }

    private static void joinRefused() {
        MetricLogMonitor m = new MetricLogMonitor();
        Due.refused("join(true, 0, 0) without formulas", m.join(true, 0, 0));
        m.atom(0, 0, 0);
        for (int bad : new int[] {-1, 1, 12, LEAST, MOST}) {
            for (boolean both : new boolean[] {false, true}) {
                Due.refused("join(" + both + ", " + bad + ", 0)", m.join(both, bad, 0));
                Due.refused("join(" + both + ", 0, " + bad + ")", m.join(both, 0, bad));
            }
        }
        Due.due("join: the next number", m.join(false, 0, 0), 1);
    }

    private static void exists() {
        MetricLogMonitor m = new MetricLogMonitor();
        m.atom(0, 0, 1);
        m.atom(0, 1, 2);
        Due.due("exists(0, 0)", m.exists(0, 0), 2);
        Due.due("exists(1, 0)", m.exists(1, 0), 3);
        Due.due("exists(2, 0)", m.exists(2, 0), 4);
        Due.due("exists(1, 1)", m.exists(1, 1), 5);
        Due.due("exists(2, 1)", m.exists(2, 1), 6);
        Due.due("exists(0, 3)", m.exists(0, 3), 7);
        m.watch();
        m.gather(0, 1, 3);
        m.gather(0, 2, 3);
        m.gather(0, 3, 0);
        m.place(0);
        m.place(0);
        Due.due("exists 0", m.satisfied(2, 0), Sets.at(1, 0, 3));
        Due.due("exists 1", m.satisfied(3, 0), Sets.at(0, 1, 2, 3));
        Due.due("exists: a variable that is not free", m.satisfied(4, 0), m.satisfied(0, 0));
        Due.due("exists 1, first term", m.satisfied(5, 0), Sets.at(2, 0, 3));
        Due.due("exists 2, second term", m.satisfied(6, 0), Sets.at(1, 1, 2, 3));
        Due.due("exists of exists", m.satisfied(7, 0), Sets.ALL);
        Due.due("exists of nothing", m.satisfied(7, 1), 0);
    }

    private static void existsRefused() {
        MetricLogMonitor m = new MetricLogMonitor();
        Due.refused("exists(0, 0) without formulas", m.exists(0, 0));
        m.atom(0, 0, 0);
        for (int bad : new int[] {-1, 3, 4, LEAST, MOST}) {
            Due.refused("exists(" + bad + ", 0)", m.exists(bad, 0));
        }
        for (int bad : new int[] {-1, 1, 12, LEAST, MOST}) {
            Due.refused("exists(0, " + bad + ")", m.exists(0, bad));
        }
        Due.due("exists: the next number", m.exists(2, 0), 1);
    }

    private static void previous() {
        MetricLogMonitor m = new MetricLogMonitor();
        m.atom(0, 0, 4);
        Due.due("previous(2, 4, 0)", m.previous(2, 4, 0), 1);
        Due.due("previous(0, ALWAYS, 0)", m.previous(0, ALWAYS, 0), 2);
        Due.due("previous(3, ALWAYS, 0)", m.previous(3, ALWAYS, 0), 3);
        Due.due("previous(0, 0, 0)", m.previous(0, 0, 0), 4);
        m.watch();
        int[] times = {10, 11, 13, 17, 22, 22};
        for (int i = 0; i < times.length; i++) {
            m.gather(0, i % 4, 0);
            m.place(times[i]);
        }
        Due.due("previous: no place before place 0", m.satisfied(2, 0), 0);
        Due.due("previous: below lo", m.satisfied(1, 1), 0);
        Due.due("previous: at lo", m.satisfied(1, 2), Sets.at(0, 1));
        Due.due("previous: at hi", m.satisfied(1, 3), Sets.at(0, 2));
        Due.due("previous: beyond hi", m.satisfied(1, 4), 0);
        Due.due("previous: always", m.satisfied(2, 4), Sets.at(0, 3));
        Due.due("previous: always, below lo", m.satisfied(3, 2), 0);
        Due.due("previous: always, from lo", m.satisfied(3, 3), Sets.at(0, 2));
        Due.due("previous: the same time", m.satisfied(4, 5), Sets.at(0, 0));
        Due.due("previous: only the same time", m.satisfied(4, 4), 0);
    }

    private static void previousRefused() {
        MetricLogMonitor m = new MetricLogMonitor();
        Due.refused("previous(0, 1, 0) without formulas", m.previous(0, 1, 0));
        m.atom(0, 0, 0);
        for (int[] bad : badPastIntervals()) {
            Due.refused("previous(" + bad[0] + ", " + bad[1] + ", 0)", m.previous(bad[0], bad[1], 0));
        }
        for (int bad : new int[] {-1, 1, 12, LEAST, MOST}) {
            Due.refused("previous(0, 1, " + bad + ")", m.previous(0, 1, bad));
        }
        int next = 1;
        for (int[] good : goodPastIntervals()) {
            Due.due("previous(" + good[0] + ", " + good[1] + ", 0)", m.previous(good[0], good[1], 0), next);
            next++;
        }
    }

    private static void since() {
        MetricLogMonitor m = new MetricLogMonitor();
        m.atom(0, 0, 4);
        m.atom(1, 0, 4);
        Due.due("since(2, 5, 0, 1)", m.since(2, 5, 0, 1), 2);
        Due.due("since(0, ALWAYS, 0, 1)", m.since(0, ALWAYS, 0, 1), 3);
        Due.due("since(3, ALWAYS, 0, 1)", m.since(3, ALWAYS, 0, 1), 4);
        Due.due("since(0, 0, 0, 1)", m.since(0, 0, 0, 1), 5);
        Due.due("since(0, ALWAYS, 1, 1)", m.since(0, ALWAYS, 1, 1), 6);
        m.watch();
        // The second holds for 1 and 2 at place 0; the first for 1 and 3 at place 1, for 1 after it.
        m.gather(1, 1, 0);
        m.gather(1, 2, 0);
        m.place(10);
        m.gather(0, 1, 0);
        m.gather(0, 3, 0);
        m.place(11);
        for (int time : new int[] {12, 15, 16}) {
            m.gather(0, 1, 0);
            m.place(time);
        }
        Due.due("since: at the place itself, the first need not hold", m.satisfied(3, 0), Sets.at(0, 1, 2));
        Due.due("since: the first must hold after the place", m.satisfied(3, 1), Sets.at(0, 1));
        Due.due("since: duration below lo at the place itself", m.satisfied(2, 0), 0);
        Due.due("since: duration below lo", m.satisfied(2, 1), 0);
        Due.due("since: duration at lo", m.satisfied(2, 2), Sets.at(0, 1));
        Due.due("since: duration at hi", m.satisfied(2, 3), Sets.at(0, 1));
        Due.due("since: duration beyond hi", m.satisfied(2, 4), 0);
        Due.due("since: always", m.satisfied(3, 4), Sets.at(0, 1));
        Due.due("since: always, below lo", m.satisfied(4, 2), 0);
        Due.due("since: always, from lo", m.satisfied(4, 3), Sets.at(0, 1));
        Due.due("since: no duration", m.satisfied(5, 0), Sets.at(0, 1, 2));
        Due.due("since: no duration, later", m.satisfied(5, 1), 0);
        Due.due("since: the same formula twice", m.satisfied(6, 0), Sets.at(0, 1, 2));
        m.gather(1, 0, 0);
        m.place(16);
        Due.due("since: the first fails at the place itself", m.satisfied(3, 5), Sets.at(0, 0));
    }

    private static void sinceRefused() {
        MetricLogMonitor m = new MetricLogMonitor();
        Due.refused("since(0, 1, 0, 0) without formulas", m.since(0, 1, 0, 0));
        m.atom(0, 0, 0);
        for (int[] bad : badPastIntervals()) {
            Due.refused("since(" + bad[0] + ", " + bad[1] + ", 0, 0)", m.since(bad[0], bad[1], 0, 0));
        }
        for (int bad : new int[] {-1, 1, 12, LEAST, MOST}) {
            Due.refused("since(0, 1, " + bad + ", 0)", m.since(0, 1, bad, 0));
            Due.refused("since(0, 1, 0, " + bad + ")", m.since(0, 1, 0, bad));
        }
        int next = 1;
        for (int[] good : goodPastIntervals()) {
            Due.due("since(" + good[0] + ", " + good[1] + ", 0, 0)", m.since(good[0], good[1], 0, 0), next);
            next++;
        }
    }

    private static void until() {
        MetricLogMonitor m = new MetricLogMonitor();
        m.atom(0, 0, 4);
        m.atom(1, 0, 4);
        Due.due("until(2, 5, 0, 1)", m.until(2, 5, 0, 1), 2);
        Due.due("until(0, 6, 0, 1)", m.until(0, 6, 0, 1), 3);
        Due.due("until(0, 0, 0, 1)", m.until(0, 0, 0, 1), 4);
        Due.due("until(0, 6, 1, 1)", m.until(0, 6, 1, 1), 5);
        m.watch();
        // The second holds for 1 and 2 at place 4, the first for 1 before it and for 2 at places 2 and 3.
        for (int time : new int[] {10, 11}) {
            m.gather(0, 1, 0);
            m.place(time);
        }
        for (int time : new int[] {14, 15}) {
            m.gather(0, 1, 0);
            m.gather(0, 2, 0);
            m.place(time);
        }
        m.gather(1, 1, 0);
        m.gather(1, 2, 0);
        m.place(16);
        m.place(100);
        Due.due("until: duration beyond hi", m.satisfied(2, 0), 0);
        Due.due("until: duration at hi", m.satisfied(2, 1), Sets.at(0, 1));
        Due.due("until: duration at lo", m.satisfied(2, 2), Sets.at(0, 1, 2));
        Due.due("until: duration below lo", m.satisfied(2, 3), 0);
        Due.due("until: duration below lo at the place itself", m.satisfied(2, 4), 0);
        Due.due("until: the first must hold from the place on", m.satisfied(3, 0), Sets.at(0, 1));
        Due.due("until: the first need not hold at the end", m.satisfied(3, 3), Sets.at(0, 1, 2));
        Due.due("until: at the place itself", m.satisfied(3, 4), Sets.at(0, 1, 2));
        Due.due("until: no duration", m.satisfied(4, 4), Sets.at(0, 1, 2));
        Due.due("until: no duration, earlier", m.satisfied(4, 3), 0);
        Due.due("until: the same formula twice", m.satisfied(5, 4), Sets.at(0, 1, 2));
    }

    private static void untilRefused() {
        MetricLogMonitor m = new MetricLogMonitor();
        Due.refused("until(0, 1, 0, 0) without formulas", m.until(0, 1, 0, 0));
        m.atom(0, 0, 0);
        for (int[] bad : badPastIntervals()) {
            Due.refused("until(" + bad[0] + ", " + bad[1] + ", 0, 0)", m.until(bad[0], bad[1], 0, 0));
        }
        Due.refused("until(0, ALWAYS, 0, 0)", m.until(0, ALWAYS, 0, 0));
        Due.refused("until(5, ALWAYS, 0, 0)", m.until(5, ALWAYS, 0, 0));
        for (int bad : new int[] {-1, 1, 12, LEAST, MOST}) {
            Due.refused("until(0, 1, " + bad + ", 0)", m.until(0, 1, bad, 0));
            Due.refused("until(0, 1, 0, " + bad + ")", m.until(0, 1, 0, bad));
        }
        Due.due("until(0, 0, 0, 0)", m.until(0, 0, 0, 0), 1);
        Due.due("until(0, 1000000, 0, 0)", m.until(0, 1000000, 0, 0), 2);
        Due.due("until(1000000, 1000000, 0, 0)", m.until(1000000, 1000000, 0, 0), 3);
    }

    private static int[][] badPastIntervals() {
        return new int[][] {{1, 0}, {-1, 0}, {-1, 5}, {0, -2}, {-2, -2}, {0, 1000001}, {1000001, 1000001}, {-1, ALWAYS},
            {1000001, ALWAYS}, {LEAST, ALWAYS}, {MOST, ALWAYS}, {0, LEAST}, {0, MOST}, {LEAST, MOST}, {3, 2}};
    }

    private static int[][] goodPastIntervals() {
        return new int[][] {{0, 0}, {0, 1000000}, {1000000, 1000000}, {0, ALWAYS}, {1000000, ALWAYS}, {3, 4}};
    }

    private static void madeOneAfterTheOther() {
        MetricLogMonitor m = new MetricLogMonitor();
        Due.due("numbers: atom", m.atom(0, 0, 1), 0);
        Due.due("numbers: compare", m.compare(true, 0, 1), 1);
        Due.due("numbers: not", m.not(0), 2);
        Due.due("numbers: join", m.join(true, 2, 1), 3);
        Due.due("numbers: exists", m.exists(0, 3), 4);
        Due.due("numbers: previous", m.previous(0, 1, 4), 5);
        Due.due("numbers: since", m.since(0, 1, 5, 4), 6);
        Due.due("numbers: until", m.until(0, 1, 6, 5), 7);
    }

    private static void nothingIsMadeWhileWatching() {
        MetricLogMonitor m = new MetricLogMonitor();
        m.atom(0, 0, 1);
        m.watch();
        m.gather(0, 1, 2);
        m.place(4);
        String before = Snapshot.of(m, 3, 2);
        refuseAll("watching", m);
        Due.same("watching: refused calls change nothing", Snapshot.of(m, 3, 2), before);
        m.stop(false);
        Due.due("watching: the next number after it", m.not(0), 1);
    }

    private static void thirteenthIsRefused() {
        MetricLogMonitor m = new MetricLogMonitor();
        for (int f = 0; f < 12; f++) {
            Due.due("formula " + f, m.atom(0, 0, 1), f);
        }
        String before = Snapshot.of(m, 13, 0);
        refuseAll("12 formulas", m);
        Due.same("12 formulas: refused calls change nothing", Snapshot.of(m, 13, 0), before);
    }

    private static void refuseAll(String state, MetricLogMonitor m) {
        Due.refused(state + ": atom", m.atom(0, 0, 1));
        Due.refused(state + ": compare", m.compare(true, 0, 1));
        Due.refused(state + ": not", m.not(0));
        Due.refused(state + ": join", m.join(true, 0, 0));
        Due.refused(state + ": exists", m.exists(0, 0));
        Due.refused(state + ": previous", m.previous(0, 1, 0));
        Due.refused(state + ": since", m.since(0, 1, 0, 0));
        Due.refused(state + ": until", m.until(0, 1, 0, 0));
    }
}
