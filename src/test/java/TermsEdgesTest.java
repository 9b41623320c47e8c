/** What the document's terms say of satisfying at their edges: assignments, terms, intervals, first and last places. */
public final class TermsEdgesTest {
    private static final int ALWAYS = MetricLogMonitor.ALWAYS;
    private static final int LATEST = Calls.LATEST;
    private static final int[][] INTERVALS = {{0, 0}, {0, 1}, {1, 1}, {1, 2}, {0, LATEST - 1}, {1, LATEST - 1},
        {LATEST - 1, LATEST - 1}, {0, LATEST}, {1, LATEST}, {LATEST - 1, LATEST}, {LATEST, LATEST}, {0, ALWAYS},
        {1, ALWAYS}, {2, ALWAYS}, {LATEST - 1, ALWAYS}, {LATEST, ALWAYS}};
    private static final int[] DURATIONS = {0, 1, 2, 3, LATEST - 2, LATEST - 1, LATEST};

    public static void main(String[] args) {
        everyAssignmentHasItsNumber();
        termsInEqualAndLess();
        termsInAtom();
        notOfNothingAndOfAll();
        andAndOrOfNoneOneAndBoth();
        existsAtEachEdgeOfTheSet();
        previousAtTheFirstPlace();
        previousLooksOnePlaceBack();
        durationsOfPrevious();
        durationsOfSince();
        durationsOfUntil();
        sinceWithFirstFailingOnce();
        untilWithFirstFailingOnce();
        sinceAmongPlacesOfOneTime();
        untilAmongPlacesOfOneTime();
        sinceOverAFullLog();
        untilOverAFullLog();
        Due.end();
    }

    /** "its NUMBER is (value of 0) + 4 * (value of 1) + 16 * (value of 2), 0 .. 63", up to the sign of the long. */
    private static void everyAssignmentHasItsNumber() {
        for (int n = 0; n < 64; n++) {
            MetricLogMonitor m = oneAssignment(n);
            m.watch();
            m.place(0);
            Due.due("only assignment " + n, m.satisfied(4, 0), 1L << n);
            Due.due("only assignment " + n + ": rows", m.rows(4, 0), 1);
        }
        Due.due("only assignment 0", onlyAssignment(0), 1L);
        Due.due("only assignment 63", onlyAssignment(63), Long.MIN_VALUE);
    }

    private static long onlyAssignment(int n) {
        MetricLogMonitor m = oneAssignment(n);
        m.watch();
        m.place(0);
        return m.satisfied(4, 0);
    }

    /** Formula 4 is satisfied by the assignment n alone. */
    private static MetricLogMonitor oneAssignment(int n) {
        MetricLogMonitor m = new MetricLogMonitor();
        m.compare(false, 0, 4 + n % 4);
        m.compare(false, 1, 4 + n / 4 % 4);
        m.compare(false, 2, 4 + n / 16);
        m.join(true, 0, 1);
        m.join(true, 3, 2);
        return m;
    }

    private static int meant(int term, int[] values) {
        return term < 3 ? values[term] : term - 4;
    }

    /** "A TERM is a number: 0, 1, 2 is that variable, 4 .. 7 is the value term - 4". */
    private static void termsInEqualAndLess() {
        for (int a : Calls.TERM) {
            for (int b : Calls.TERM) {
                MetricLogMonitor m = new MetricLogMonitor();
                m.compare(false, a, b);
                m.compare(true, a, b);
                m.watch();
                m.place(0);
                Due.due("EQUAL " + a + " " + b, m.satisfied(0, 0), Sets.where(x -> meant(a, x) == meant(b, x)));
                Due.due("LESS " + a + " " + b, m.satisfied(1, 0), Sets.where(x -> meant(a, x) < meant(b, x)));
            }
        }
    }

    private static void termsInAtom() {
        for (int a : Calls.TERM) {
            for (int b : Calls.TERM) {
                MetricLogMonitor m = new MetricLogMonitor();
                m.atom(0, a, b);
                m.atom(1, a, b);
                m.atom(2, a, b);
                m.watch();
                for (int i = 0; i < 16; i++) {
                    m.gather(i % 3, i / 4, i % 4);
                    m.place(0);
                }
                for (int i = 0; i < 16; i++) {
                    int first = i / 4;
                    int second = i % 4;
                    long set = Sets.where(x -> meant(a, x) == first && meant(b, x) == second);
                    for (int r = 0; r < 3; r++) {
                        Due.due("ATOM " + r + " " + a + " " + b + " at " + i, m.satisfied(r, i), i % 3 == r ? set : 0);
                    }
                }
            }
        }
    }

    private static void notOfNothingAndOfAll() {
        MetricLogMonitor m = new MetricLogMonitor();
        m.compare(true, 4, 4);
        m.not(0);
        m.not(1);
        m.join(true, 0, 1);
        m.join(false, 0, 1);
        m.watch();
        m.place(0);
        Due.due("nothing", m.satisfied(0, 0), 0);
        Due.due("NOT of nothing", m.satisfied(1, 0), -1);
        Due.due("NOT of all", m.satisfied(2, 0), 0);
        Due.due("nothing AND all", m.satisfied(3, 0), 0);
        Due.due("nothing OR all", m.satisfied(4, 0), -1);
    }

    /** "when it satisfies both, or at least one, at i". */
    private static void andAndOrOfNoneOneAndBoth() {
        MetricLogMonitor m = new MetricLogMonitor();
        m.atom(0, 4, 4);
        m.atom(1, 4, 4);
        m.join(true, 0, 1);
        m.join(false, 0, 1);
        m.watch();
        for (int i = 0; i < 4; i++) {
            if (i % 2 == 1) {
                m.gather(0, 0, 0);
            }
            if (i >= 2) {
                m.gather(1, 0, 0);
            }
            m.place(0);
        }
        long[] and = {0, 0, 0, -1};
        long[] or = {0, -1, -1, -1};
        for (int i = 0; i < 4; i++) {
            Due.due("AND at " + i, m.satisfied(2, i), and[i]);
            Due.due("OR at " + i, m.satisfied(3, i), or[i]);
        }
    }

    /** "when some assignment that differs from it at most at variable v satisfies f": of each single assignment. */
    private static void existsAtEachEdgeOfTheSet() {
        for (int n = 0; n < 64; n++) {
            int[] only = {n % 4, n / 4 % 4, n / 16};
            MetricLogMonitor m = oneAssignment(n);
            for (int v = 0; v < 3; v++) {
                m.exists(v, 4);
            }
            m.exists(2, 5);
            m.exists(1, 8);
            m.watch();
            m.place(0);
            Due.due("EXISTS 0 of " + n, m.satisfied(5, 0), Sets.where(x -> x[1] == only[1] && x[2] == only[2]));
            Due.due("EXISTS 1 of " + n, m.satisfied(6, 0), Sets.where(x -> x[0] == only[0] && x[2] == only[2]));
            Due.due("EXISTS 2 of " + n, m.satisfied(7, 0), Sets.where(x -> x[0] == only[0] && x[1] == only[1]));
            Due.due("EXISTS 2 EXISTS 0 of " + n, m.satisfied(8, 0), Sets.at(1, only[1]));
            Due.due("EXISTS 1 EXISTS 2 EXISTS 0 of " + n, m.satisfied(9, 0), -1);
            for (int f = 5; f < 10; f++) {
                Due.due("rows(" + f + ", 0) of " + n, m.rows(f, 0), 1);
            }
        }
    }

    /** "when i > 0". */
    private static void previousAtTheFirstPlace() {
        for (int[] interval : INTERVALS) {
            for (int time : new int[] {0, 1, LATEST}) {
                MetricLogMonitor m = new MetricLogMonitor();
                m.compare(false, 4, 4);
                m.previous(interval[0], interval[1], 0);
                m.not(1);
                m.watch();
                m.place(time);
                Due.due(text("PREVIOUS", interval) + " at place 0, progress", m.progress(1), 1);
                Due.due(text("PREVIOUS", interval) + " at place 0", m.satisfied(1, 0), 0);
                Due.due(text("PREVIOUS", interval) + " at place 0, rows", m.rows(1, 0), 0);
                Due.due(text("NOT PREVIOUS", interval) + " at place 0", m.satisfied(2, 0), -1);
            }
        }
    }

    /** "it satisfies f at i - 1", over a full log. */
    private static void previousLooksOnePlaceBack() {
        MetricLogMonitor m = new MetricLogMonitor();
        m.atom(0, 0, 1);
        m.previous(0, ALWAYS, 0);
        m.previous(0, ALWAYS, 1);
        m.watch();
        for (int i = 0; i < 24; i++) {
            m.gather(0, i / 4 % 4, i % 4);
            m.place(i * i);
        }
        for (int i = 0; i < 24; i++) {
            Due.due("PREVIOUS at " + i, m.satisfied(1, i), i < 1 ? 0 : pairOf(i - 1));
            Due.due("PREVIOUS PREVIOUS at " + i, m.satisfied(2, i), i < 2 ? 0 : pairOf(i - 2));
        }
    }

    private static long pairOf(int place) {
        return Sets.where(x -> x[0] == place / 4 % 4 && x[1] == place % 4);
    }

    private static boolean lies(int duration, int[] interval) {
        return interval[0] <= duration && (interval[1] == ALWAYS || duration <= interval[1]);
    }

    private static String text(String kind, int[] interval) {
        return kind + " " + interval[0] + " " + interval[1];
    }

    /** "a duration lies in it when lo <= duration <= hi", or with ALWAYS "when lo <= duration". */
    private static void durationsOfPrevious() {
        for (int[] interval : INTERVALS) {
            for (int duration : DURATIONS) {
                for (int start : new int[] {0, LATEST - duration}) {
                    MetricLogMonitor m = new MetricLogMonitor();
                    m.compare(false, 4, 4);
                    m.previous(interval[0], interval[1], 0);
                    m.watch();
                    m.place(start);
                    m.place(start + duration);
                    Due.due(text("PREVIOUS", interval) + " after " + duration, m.satisfied(1, 1),
                            lies(duration, interval) ? -1 : 0);
                }
            }
        }
    }

    private static void durationsOfSince() {
        for (int[] interval : INTERVALS) {
            for (int duration : DURATIONS) {
                for (int start : new int[] {0, LATEST - duration}) {
                    MetricLogMonitor m = new MetricLogMonitor();
                    m.compare(false, 4, 4);
                    m.atom(0, 0, 4);
                    m.since(interval[0], interval[1], 0, 1);
                    m.watch();
                    m.gather(0, 2, 0);
                    m.place(start);
                    m.place(start + duration);
                    Due.due(text("SINCE", interval) + " at the place itself", m.satisfied(2, 0),
                            lies(0, interval) ? Sets.at(0, 2) : 0);
                    Due.due(text("SINCE", interval) + " after " + duration, m.satisfied(2, 1),
                            lies(duration, interval) ? Sets.at(0, 2) : 0);
                }
            }
        }
    }

    /** The place at the latest time decides the first one, unless hi reaches as far. */
    private static void durationsOfUntil() {
        for (int[] interval : INTERVALS) {
            if (interval[1] == ALWAYS) {
                continue;
            }
            for (int duration : DURATIONS) {
                MetricLogMonitor m = new MetricLogMonitor();
                m.compare(false, 4, 4);
                m.atom(0, 0, 4);
                m.until(interval[0], interval[1], 0, 1);
                m.watch();
                m.place(0);
                m.gather(0, 2, 0);
                m.place(duration);
                m.place(LATEST);
                String what = text("UNTIL", interval) + " before " + duration;
                boolean decided = LATEST > interval[1];
                boolean holds = decided && lies(duration, interval);
                Due.due(what, m.satisfied(2, 0), holds ? Sets.at(0, 2) : 0);
                Due.due(what + ", rows", m.rows(2, 0), holds ? 1 : decided ? 0 : -1);
            }
        }
    }

    /** "at all places k with j < k <= i": f fails at one place only, g holds at one place only. */
    private static void sinceWithFirstFailingOnce() {
        for (int lo = 0; lo <= 4; lo++) {
            for (int hi = lo; hi <= 4; hi++) {
                for (int j = 0; j < 5; j++) {
                    for (int k = 0; k < 5; k++) {
                        MetricLogMonitor m = failingOnce(j, k, Call.since(lo, hi, 1, 2));
                        for (int i = 0; i < 5; i++) {
                            boolean holds = j <= i && lo <= i - j && i - j <= hi && !(j < k && k <= i);
                            Due.due("SINCE " + lo + " " + hi + " at " + i + ", g at " + j + ", f not at " + k,
                                    m.satisfied(3, i), holds ? -1 : 0);
                        }
                    }
                }
            }
        }
    }

    /** "at all places k with i <= k < j": f fails at one place only, g holds at one place only. */
    private static void untilWithFirstFailingOnce() {
        for (int lo = 0; lo <= 4; lo++) {
            for (int hi = lo; hi <= 4; hi++) {
                for (int j = 0; j < 5; j++) {
                    for (int k = 0; k < 5; k++) {
                        MetricLogMonitor m = failingOnce(j, k, Call.until(lo, hi, 1, 2));
                        for (int i = 0; i < 5; i++) {
                            boolean holds = i <= j && lo <= j - i && j - i <= hi && !(i <= k && k < j);
                            Due.due("UNTIL " + lo + " " + hi + " at " + i + ", g at " + j + ", f not at " + k,
                                    m.satisfied(3, i), holds ? -1 : 0);
                        }
                    }
                }
            }
        }
    }

    /** Places 0 .. 4 at times 0 .. 4, and a last one much later. */
    private static MetricLogMonitor failingOnce(int j, int k, Call making) {
        MetricLogMonitor m = new MetricLogMonitor();
        m.atom(0, 4, 4);
        m.not(0);
        m.atom(1, 4, 4);
        making.on(m);
        m.watch();
        for (int i = 0; i < 5; i++) {
            if (i == k) {
                m.gather(0, 0, 0);
            }
            if (i == j) {
                m.gather(1, 0, 0);
            }
            m.place(i);
        }
        m.place(100);
        return m;
    }

    /** The duration between places of one time is 0: they count by their order. */
    private static void sinceAmongPlacesOfOneTime() {
        MetricLogMonitor m = sameTime(Call.since(0, 0, 0, 1), Call.since(1, 1, 0, 1));
        long[] due = {0, Sets.at(0, 1), Sets.at(0, 1), 0};
        for (int i = 0; i < 4; i++) {
            Due.due("SINCE 0 0 at " + i, m.satisfied(2, i), due[i]);
            Due.due("SINCE 1 1 at " + i, m.satisfied(3, i), i == 3 ? Sets.at(0, 1) : 0);
        }
    }

    private static void untilAmongPlacesOfOneTime() {
        MetricLogMonitor m = sameTime(Call.until(0, 0, 0, 1), Call.until(1, 1, 0, 1));
        long[] due = {Sets.at(0, 1), Sets.at(0, 1), 0};
        for (int i = 0; i < 3; i++) {
            Due.due("UNTIL 0 0 at " + i, m.satisfied(2, i), due[i]);
        }
        Due.due("UNTIL 0 0: progress", m.progress(2), 3);
        Due.due("UNTIL 1 1: progress", m.progress(3), 0);
    }

    /** Three places at time 5 and one at time 6; the first holds for 1 everywhere, the second at place 1. */
    private static MetricLogMonitor sameTime(Call third, Call fourth) {
        MetricLogMonitor m = new MetricLogMonitor();
        m.atom(0, 0, 4);
        m.atom(1, 0, 4);
        third.on(m);
        fourth.on(m);
        m.watch();
        for (int i = 0; i < 4; i++) {
            m.gather(0, 1, 0);
            if (i == 1) {
                m.gather(1, 1, 0);
            }
            m.place(i == 3 ? 6 : 5);
        }
        return m;
    }

    /** From the last place back to the first. */
    private static void sinceOverAFullLog() {
        MetricLogMonitor m = new MetricLogMonitor();
        m.compare(false, 4, 4);
        m.atom(0, 0, 1);
        m.since(0, ALWAYS, 0, 1);
        m.since(23, 23, 0, 1);
        m.since(24, ALWAYS, 0, 1);
        m.watch();
        m.gather(0, 3, 3);
        for (int i = 0; i < 24; i++) {
            m.place(i);
        }
        long set = Sets.where(x -> x[0] == 3 && x[1] == 3);
        for (int i = 0; i < 24; i++) {
            Due.due("SINCE 0 ALWAYS at " + i, m.satisfied(2, i), set);
            Due.due("SINCE 23 23 at " + i, m.satisfied(3, i), i == 23 ? set : 0);
            Due.due("SINCE 24 ALWAYS at " + i, m.satisfied(4, i), 0);
        }
    }

    /** From the first place on to the one before the last, which decides. */
    private static void untilOverAFullLog() {
        MetricLogMonitor m = new MetricLogMonitor();
        m.compare(false, 4, 4);
        m.atom(0, 0, 1);
        m.until(0, 22, 0, 1);
        m.until(22, 22, 0, 1);
        m.until(0, 23, 0, 1);
        m.watch();
        for (int i = 0; i < 24; i++) {
            if (i == 22) {
                m.gather(0, 3, 3);
            }
            m.place(i);
        }
        long set = Sets.where(x -> x[0] == 3 && x[1] == 3);
        Due.due("UNTIL 0 22: progress", m.progress(2), 1);
        Due.due("UNTIL 0 22 at 0", m.satisfied(2, 0), set);
        Due.due("UNTIL 22 22: progress", m.progress(3), 1);
        Due.due("UNTIL 22 22 at 0", m.satisfied(3, 0), set);
        Due.due("UNTIL 0 23: progress", m.progress(4), 0);
        Due.due("UNTIL 0 23 at 0", m.satisfied(4, 0), 0);
    }
}
