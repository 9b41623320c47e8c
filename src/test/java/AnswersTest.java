/** Promises 17 to 19: progress, satisfied and rows. */
public final class AnswersTest {
    private static final int LEAST = Integer.MIN_VALUE;
    private static final int MOST = Integer.MAX_VALUE;

    public static void main(String[] args) {
        progressOfEachKind();
        progressOfUntil();
        progressOfUntilAtTheEdges();
        progressOfUntilOverUntil();
        progressWithoutWatching();
        noSuchFormula();
        noSuchPlace();
        decidedSetsStay();
        rows();
        rowsOfAll();
        Due.end();
    }

    private static void progressOfEachKind() {
        MetricLogMonitor m = new MetricLogMonitor();
        m.atom(0, 0, 4);
        m.compare(false, 0, 4);
        int until = m.until(0, 2, 0, 0);
        int not = m.not(until);
        int exists = m.exists(0, until);
        int and = m.join(true, 0, until);
        int or = m.join(false, until, 1);
        int since = m.since(0, 5, until, 1);
        int sinceSecond = m.since(0, 5, 1, until);
        int previous = m.previous(0, 5, until);
        int previousAtom = m.previous(0, 5, 0);
        int twoBack = m.previous(0, 5, previous);
        m.watch();
        int[] times = {0, 1, 3, 4, 9};
        int[] decided = {0, 0, 1, 2, 4};
        for (int n = 1; n <= times.length; n++) {
            m.place(times[n - 1]);
            String at = " after place " + (n - 1);
            int known = decided[n - 1];
            Due.due("progress: ATOM" + at, m.progress(0), n);
            Due.due("progress: EQUAL" + at, m.progress(1), n);
            Due.due("progress: UNTIL" + at, m.progress(until), known);
            Due.due("progress: NOT" + at, m.progress(not), known);
            Due.due("progress: EXISTS" + at, m.progress(exists), known);
            Due.due("progress: AND" + at, m.progress(and), known);
            Due.due("progress: OR" + at, m.progress(or), known);
            Due.due("progress: SINCE" + at, m.progress(since), known);
            Due.due("progress: SINCE by its second" + at, m.progress(sinceSecond), known);
            Due.due("progress: PREVIOUS" + at, m.progress(previous), Math.min(n, known + 1));
            Due.due("progress: PREVIOUS of ATOM" + at, m.progress(previousAtom), n);
            Due.due("progress: PREVIOUS of PREVIOUS" + at, m.progress(twoBack), Math.min(n, known + 2));
        }
    }

    private static void progressOfUntil() {
        MetricLogMonitor m = new MetricLogMonitor();
        m.atom(0, 0, 4);
        m.until(3, 5, 0, 0);
        m.watch();
        m.place(10);
        Due.due("progress of UNTIL: one place", m.progress(1), 0);
        m.place(15);
        Due.due("progress of UNTIL: at hi", m.progress(1), 0);
        m.place(16);
        Due.due("progress of UNTIL: just beyond hi", m.progress(1), 1);
        m.place(16);
        m.place(16);
        Due.due("progress of UNTIL: the same time", m.progress(1), 1);
        m.place(21);
        Due.due("progress of UNTIL: beyond hi of the next", m.progress(1), 2);
        m.place(22);
        Due.due("progress of UNTIL: beyond hi of three at one time", m.progress(1), 5);
    }

    private static void progressOfUntilAtTheEdges() {
        MetricLogMonitor m = new MetricLogMonitor();
        m.atom(0, 0, 4);
        m.until(0, 1000000, 0, 0);
        m.until(0, 0, 0, 0);
        m.until(0, 999999, 0, 0);
        m.watch();
        m.place(0);
        m.place(1000000);
        Due.due("progress of UNTIL 0 1000000: never", m.progress(1), 0);
        Due.due("progress of UNTIL 0 0", m.progress(2), 1);
        Due.due("progress of UNTIL 0 999999", m.progress(3), 1);
    }

    private static void progressOfUntilOverUntil() {
        MetricLogMonitor m = new MetricLogMonitor();
        m.atom(0, 0, 4);
        m.until(0, 2, 0, 0);
        m.until(0, 1, 1, 0);
        m.until(0, 1, 0, 1);
        m.watch();
        int[] times = {0, 2, 4, 6, 8};
        int[] inner = {0, 0, 1, 2, 3};
        // The outer one may look at place k only when k is at most the inner one's progress.
        int[] outer = {0, 0, 1, 2, 3};
        for (int i = 0; i < times.length; i++) {
            m.place(times[i]);
            Due.due("progress of the inner UNTIL after " + i, m.progress(1), inner[i]);
            Due.due("progress of the outer UNTIL, first, after " + i, m.progress(2), outer[i]);
            Due.due("progress of the outer UNTIL, second, after " + i, m.progress(3), outer[i]);
        }
        m.stop(false);
        m.watch();
        m.place(0);
        m.place(1);
        m.place(3);
        Due.due("progress of the inner UNTIL, closer", m.progress(1), 1);
        Due.due("progress of the outer UNTIL, closer: place 1 is too near", m.progress(2), 0);
        m.place(4);
        Due.due("progress of the inner UNTIL, then", m.progress(1), 2);
        Due.due("progress of the outer UNTIL, then: place 2 decides two", m.progress(2), 2);
    }

    private static void progressWithoutWatching() {
        MetricLogMonitor m = new MetricLogMonitor();
        m.atom(0, 0, 4);
        m.previous(0, 1, 0);
        Due.due("progress before watch()", m.progress(0), 0);
        Due.due("progress of PREVIOUS before watch()", m.progress(1), 0);
        m.watch();
        Due.due("progress without places", m.progress(0), 0);
        Due.due("progress of PREVIOUS without places", m.progress(1), 0);
        m.place(0);
        m.stop(false);
        Due.due("progress after stop(false)", m.progress(0), 0);
        Due.due("progress of PREVIOUS after stop(false)", m.progress(1), 0);
    }

    private static void noSuchFormula() {
        MetricLogMonitor m = new MetricLogMonitor();
        m.compare(false, 4, 4);
        m.watch();
        m.place(0);
        for (int bad : new int[] {-1, 1, 12, LEAST, MOST}) {
            Due.refused("progress(" + bad + ")", m.progress(bad));
            Due.due("satisfied(" + bad + ", 0)", m.satisfied(bad, 0), 0);
            Due.refused("rows(" + bad + ", 0)", m.rows(bad, 0));
        }
    }

    private static void noSuchPlace() {
        MetricLogMonitor m = new MetricLogMonitor();
        m.compare(false, 4, 4);
        m.until(0, 1, 0, 0);
        Due.due("satisfied(0, 0) before watch()", m.satisfied(0, 0), 0);
        Due.refused("rows(0, 0) before watch()", m.rows(0, 0));
        m.watch();
        m.place(0);
        m.place(2);
        Due.due("satisfied(0, 1)", m.satisfied(0, 1), Sets.ALL);
        Due.due("rows(0, 1)", m.rows(0, 1), 1);
        for (int bad : new int[] {-1, 2, 24, LEAST, MOST}) {
            Due.due("satisfied(0, " + bad + ")", m.satisfied(0, bad), 0);
            Due.refused("rows(0, " + bad + ")", m.rows(0, bad));
        }
        Due.due("satisfied(1, 0) below the progress", m.satisfied(1, 0), Sets.ALL);
        Due.due("rows(1, 0) below the progress", m.rows(1, 0), 1);
        Due.due("satisfied(1, 1) at the progress", m.satisfied(1, 1), 0);
        Due.refused("rows(1, 1) at the progress", m.rows(1, 1));
    }

    private static void decidedSetsStay() {
        MetricLogMonitor m = new MetricLogMonitor();
        m.atom(0, 0, 1);
        m.atom(1, 1, 2);
        m.until(0, 3, 0, 1);
        m.not(2);
        m.watch();
        m.gather(0, 1, 1);
        m.place(0);
        m.gather(1, 1, 3);
        m.place(2);
        m.place(4);
        long until = Sets.where(x -> x[0] == 1 && x[1] == 1 && x[2] == 3);
        Due.due("UNTIL at 0", m.satisfied(2, 0), until);
        Due.due("NOT UNTIL at 0", m.satisfied(3, 0), ~until);
        m.gather(1, 1, 0);
        m.place(4);
        m.gather(1, 2, 2);
        m.place(9);
        Due.due("UNTIL at 0 later", m.satisfied(2, 0), until);
        Due.due("NOT UNTIL at 0 later", m.satisfied(3, 0), ~until);
    }

    private static void rows() {
        MetricLogMonitor m = new MetricLogMonitor();
        m.atom(0, 0, 1);
        m.atom(0, 1, 2);
        m.exists(0, 0);
        m.exists(1, 0);
        m.exists(1, 2);
        m.join(true, 0, 1);
        m.atom(0, 0, 2);
        m.atom(0, 2, 2);
        m.watch();
        m.gather(0, 1, 2);
        m.gather(0, 2, 3);
        m.gather(0, 1, 3);
        m.gather(0, 3, 3);
        m.place(0);
        m.place(0);
        Due.due("rows: free 0 and 1", m.rows(0, 0), 4);
        Due.due("rows: free 1 and 2", m.rows(1, 0), 4);
        Due.due("rows: free 1", m.rows(2, 0), 2);
        Due.due("rows: free 0", m.rows(3, 0), 3);
        Due.due("rows: none free", m.rows(4, 0), 1);
        // (1, 2, 3), (1, 3, 3), (2, 3, 3), (3, 3, 3)
        Due.due("rows: all free", m.rows(5, 0), 4);
        Due.due("rows: free 0 and 2", m.rows(6, 0), 4);
        Due.due("rows: free 2", m.rows(7, 0), 1);
        for (int f = 0; f < 8; f++) {
            Due.due("rows: formula " + f + " of nothing", m.rows(f, 1), 0);
        }
    }

    private static void rowsOfAll() {
        MetricLogMonitor m = new MetricLogMonitor();
        m.atom(0, 0, 1);
        m.atom(0, 2, 2);
        m.join(false, 0, 1);
        for (int f = 0; f < 3; f++) {
            m.not(f);
        }
        m.compare(false, 4, 4);
        m.compare(false, 4, 5);
        m.watch();
        m.place(0);
        Due.due("rows of all: two free", m.rows(3, 0), 16);
        Due.due("rows of all: one free", m.rows(4, 0), 4);
        Due.due("rows of all: three free", m.rows(5, 0), 64);
        Due.due("rows of all: none free", m.rows(6, 0), 1);
        Due.due("rows of nothing: none free", m.rows(7, 0), 0);
    }
}
