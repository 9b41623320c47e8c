import java.util.List;

/** What "Terms" says of formulas within formulas: several places j, parts that are decided late, and what may come. */
public final class PartsTest {
    private static final int ALWAYS = MetricLogMonitor.ALWAYS;
    private static final int LATEST = Calls.LATEST;
    private static final int[][] TIMES = {
        {0, 1, 2, 3}, {0, 0, 1, 1}, {0, 2, 2, 5}, {4, 4, 4, 4}, {1, 3, 7, LATEST - 9}};
    private static final int[][] INTERVALS = {{0, 0}, {0, 2}, {1, 1}, {1, 3}, {2, 6}};

    public static void main(String[] args) {
        sinceAndUntilOfEveryPattern();
        sinceAndUntilOfTheSameFormula();
        sinceOfEachAssignmentByItsOwnPlace();
        untilOfEachAssignmentByItsOwnPlace();
        eachKindOverAnUntil();
        chainOfTwelve();
        whatIsDecidedStaysWhateverComes();
        whatIsNotDecidedMayStillChange();
        Due.end();
    }

    private static boolean has(int pattern, int place) {
        return (pattern & (1 << place)) != 0;
    }

    private static boolean lies(int duration, int[] interval) {
        return interval[0] <= duration && (interval[1] == ALWAYS || duration <= interval[1]);
    }

    /** "there is a place j <= i such that ...": f and g hold at any of four places. */
    private static boolean since(int[] times, int[] interval, int f, int g, int i) {
        for (int j = 0; j <= i; j++) {
            boolean holds = lies(times[i] - times[j], interval) && has(g, j);
            for (int k = j + 1; k <= i; k++) {
                holds &= has(f, k);
            }
            if (holds) {
                return true;
            }
        }
        return false;
    }

    /** "there is a place j >= i such that ...". */
    private static boolean until(int[] times, int[] interval, int f, int g, int i) {
        for (int j = i; j < times.length; j++) {
            boolean holds = lies(times[j] - times[i], interval) && has(g, j);
            for (int k = i; k < j; k++) {
                holds &= has(f, k);
            }
            if (holds) {
                return true;
            }
        }
        return false;
    }

    private static void sinceAndUntilOfEveryPattern() {
        for (int[] times : TIMES) {
            for (int patterns = 0; patterns < 256; patterns++) {
                compareWithTheWords(times, patterns / 16, patterns % 16, 0, 1);
            }
        }
    }

    /** "(they may be the same)". */
    private static void sinceAndUntilOfTheSameFormula() {
        for (int[] times : TIMES) {
            for (int pattern = 0; pattern < 16; pattern++) {
                compareWithTheWords(times, pattern, pattern, 1, 1);
            }
        }
    }

    private static void compareWithTheWords(int[] times, int f, int g, int first, int second) {
        MetricLogMonitor m = new MetricLogMonitor();
        m.atom(0, 4, 4);
        m.atom(1, 4, 4);
        for (int[] interval : INTERVALS) {
            m.since(interval[0], interval[1], first, second);
            m.until(interval[0], interval[1], first, second);
        }
        m.watch();
        addPattern(m, times, f, g);
        for (int n = 0; n < INTERVALS.length; n++) {
            int[] interval = INTERVALS[n];
            String what = interval[0] + " " + interval[1] + ", f " + f + ", g " + g + ", to time " + times[3];
            for (int i = 0; i < 4; i++) {
                Due.due("SINCE " + what + " at " + i, m.satisfied(2 + 2 * n, i),
                        since(times, interval, f, g, i) ? -1 : 0);
                Due.due("UNTIL " + what + " at " + i, m.satisfied(3 + 2 * n, i),
                        until(times, interval, f, g, i) ? -1 : 0);
            }
        }
    }

    /** Relation 0 holds for (0, 0) where f has it, relation 1 where g has it; a last place decides all before it. */
    private static void addPattern(MetricLogMonitor m, int[] times, int f, int g) {
        for (int i = 0; i < times.length; i++) {
            if (has(f, i)) {
                m.gather(0, 0, 0);
            }
            if (has(g, i)) {
                m.gather(1, 0, 0);
            }
            m.place(times[i]);
        }
        m.place(LATEST);
    }

    /** "An assignment SATISFIES": the place j may be another one for each assignment. */
    private static void sinceOfEachAssignmentByItsOwnPlace() {
        MetricLogMonitor m = new MetricLogMonitor();
        m.atom(0, 1, 4);
        m.atom(1, 0, 4);
        m.since(0, ALWAYS, 0, 1);
        m.since(1, 1, 0, 1);
        m.watch();
        addPlace(m, 0, 0);
        addPlace(m, 1, 1, 0, 1);
        addPlace(m, 2, 2, 0, 2);
        Due.due("SINCE 0 ALWAYS at 2", m.satisfied(2, 2), Sets.where(x ->
                x[0] == 2 || x[0] == 1 && (x[1] == 0 || x[1] == 2) || x[0] == 0 && x[1] == 0));
        Due.due("SINCE 1 1 at 2", m.satisfied(3, 2), Sets.where(x -> x[0] == 1 && (x[1] == 0 || x[1] == 2)));
        Due.due("SINCE 0 ALWAYS at 2, rows", m.rows(2, 2), 4 + 2 + 1);
        Due.due("SINCE 1 1 at 2, rows", m.rows(3, 2), 2);
    }

    private static void untilOfEachAssignmentByItsOwnPlace() {
        MetricLogMonitor m = new MetricLogMonitor();
        m.atom(0, 1, 4);
        m.atom(1, 0, 4);
        m.until(0, 3, 0, 1);
        m.until(1, 1, 0, 1);
        m.watch();
        addPlace(m, 0, 0, 0, 1);
        addPlace(m, 1, 1, 0, 2);
        addPlace(m, 2, 2);
        m.place(4);
        Due.due("UNTIL 0 3 at 0", m.satisfied(2, 0), Sets.where(x ->
                x[0] == 0 || x[0] == 1 && (x[1] == 0 || x[1] == 1) || x[0] == 2 && x[1] == 0));
        Due.due("UNTIL 1 1 at 0", m.satisfied(3, 0), Sets.where(x -> x[0] == 1 && (x[1] == 0 || x[1] == 1)));
        Due.due("UNTIL 0 3 at 0, rows", m.rows(2, 0), 4 + 2 + 1);
        Due.due("UNTIL 1 1 at 0, rows", m.rows(3, 0), 2);
    }

    /** A place where relation 1 holds for (second, 0), and relation 0 for each (first, 0). */
    private static void addPlace(MetricLogMonitor m, int time, int second, int... firsts) {
        m.gather(1, second, 0);
        for (int first : firsts) {
            m.gather(0, first, 0);
        }
        m.place(time);
    }

    /** Formula 2 is decided late; each kind is made of it, and is right at every place as soon as it is decided. */
    private static final List<Call> OVER_AN_UNTIL = List.of(
            Call.atom(0, 0, 1),
            Call.atom(1, 1, 2),
            Call.until(0, 3, 0, 1),
            Call.not(2),
            Call.exists(1, 2),
            Call.join(true, 2, 0),
            Call.join(false, 0, 2),
            Call.previous(1, 2, 2),
            Call.since(0, 4, 2, 0),
            Call.since(1, ALWAYS, 0, 2),
            Call.until(0, 2, 2, 1),
            Call.until(1, 4, 0, 2));

    private static MetricLogMonitor overAnUntil() {
        MetricLogMonitor m = new MetricLogMonitor();
        for (Call call : OVER_AN_UNTIL) {
            call.on(m);
        }
        m.watch();
        return m;
    }

    /** Relation 0 holds for most pairs and relation 1 for a few, others at each place. */
    private static void addMany(MetricLogMonitor m, int i) {
        for (int x = 0; x < 4; x++) {
            for (int y = 0; y < 4; y++) {
                if ((7 * i + 5 * x + 3 * y + i * x * y) % 5 < 3) {
                    m.gather(0, x, y);
                }
                if ((3 * i + x + 2 * y + x * x * y) % 7 == 0) {
                    m.gather(1, x, y);
                }
            }
        }
        m.place(timeOf(i));
    }

    private static int timeOf(int i) {
        return i + i / 3 + i / 4;
    }

    private static void eachKindOverAnUntil() {
        for (int n = 1; n <= 16; n++) {
            MetricLogMonitor m = overAnUntil();
            for (int i = 0; i < n; i++) {
                addMany(m, i);
            }
            long[][] parts = partsOf(m, n);
            for (int f = 3; f < 12; f++) {
                int progress = m.progress(f);
                for (int i = 0; i < progress; i++) {
                    String what = OVER_AN_UNTIL.get(f).text() + " at " + i + " of " + n;
                    Due.due(what, m.satisfied(f, i), overParts(f, i, parts));
                }
            }
        }
    }

    private static long[][] partsOf(MetricLogMonitor m, int places) {
        long[][] parts = new long[3][places];
        for (int f = 0; f < 3; f++) {
            for (int i = 0; i < places; i++) {
                parts[f][i] = m.satisfied(f, i);
            }
        }
        return parts;
    }

    /** The set of formula f at i, by the document's words, from the sets of formulas 0, 1 and 2. */
    private static long overParts(int f, int i, long[][] parts) {
        switch (f) {
            case 3:
                return ~parts[2][i];
            case 4:
                return Sets.where(x -> Sets.where(y -> y[0] == x[0] && y[2] == x[2]
                        && (parts[2][i] & (1L << (y[0] + 4 * y[1] + 16 * y[2]))) != 0) != 0);
            case 5:
                return parts[2][i] & parts[0][i];
            case 6:
                return parts[0][i] | parts[2][i];
            case 7:
                return i > 0 && lies(timeOf(i) - timeOf(i - 1), new int[] {1, 2}) ? parts[2][i - 1] : 0;
            case 8:
                return sinceOf(i, new int[] {0, 4}, parts[2], parts[0]);
            case 9:
                return sinceOf(i, new int[] {1, ALWAYS}, parts[0], parts[2]);
            case 10:
                return untilOf(i, new int[] {0, 2}, parts[2], parts[1]);
            default:
                return untilOf(i, new int[] {1, 4}, parts[0], parts[2]);
        }
    }

    private static long sinceOf(int i, int[] interval, long[] first, long[] second) {
        long set = 0;
        for (int j = 0; j <= i; j++) {
            long at = lies(timeOf(i) - timeOf(j), interval) ? second[j] : 0;
            for (int k = j + 1; k <= i; k++) {
                at &= first[k];
            }
            set |= at;
        }
        return set;
    }

    private static long untilOf(int i, int[] interval, long[] first, long[] second) {
        long set = 0;
        for (int j = i; j < second.length; j++) {
            long at = lies(timeOf(j) - timeOf(i), interval) ? second[j] : 0;
            for (int k = i; k < j; k++) {
                at &= first[k];
            }
            set |= at;
        }
        return set;
    }

    /** Twelve formulas, each made of the one before it: PREVIOUS takes back what UNTIL waits for. */
    private static void chainOfTwelve() {
        MetricLogMonitor m = new MetricLogMonitor();
        m.atom(0, 0, 1);
        for (int f = 1; f < 12; f++) {
            if (f % 2 == 1) {
                m.until(0, 0, f - 1, f - 1);
            } else {
                m.previous(0, ALWAYS, f - 1);
            }
        }
        m.watch();
        for (int i = 0; i < 24; i++) {
            m.gather(0, i % 4, i / 4 % 4);
            m.place(i);
        }
        for (int f = 0; f < 12; f++) {
            int back = f / 2;
            int progress = f % 2 == 1 ? 23 : 24;
            Due.due("chain: progress(" + f + ")", m.progress(f), progress);
            for (int i = 0; i < progress; i++) {
                int from = i - back;
                long due = from < 0 ? 0 : Sets.where(x -> x[0] == from % 4 && x[1] == from / 4 % 4);
                Due.due("chain: satisfied(" + f + ", " + i + ")", m.satisfied(f, i), due);
            }
        }
    }

    /** "Whether an assignment satisfies a formula at a place below its progress, does not depend on ...". */
    private static void whatIsDecidedStaysWhateverComes() {
        for (int n = 1; n <= 10; n++) {
            for (int later = 0; later < 4; later++) {
                MetricLogMonitor m = overAnUntil();
                for (int i = 0; i < n; i++) {
                    addMany(m, i);
                }
                long[][] sets = new long[12][];
                for (int f = 0; f < 12; f++) {
                    sets[f] = new long[m.progress(f)];
                    for (int i = 0; i < sets[f].length; i++) {
                        sets[f][i] = m.satisfied(f, i);
                    }
                }
                goOn(m, n, later);
                for (int f = 0; f < 12; f++) {
                    for (int i = 0; i < sets[f].length; i++) {
                        String what = "satisfied(" + f + ", " + i + ") of " + n + " places, later " + later;
                        Due.due(what, m.satisfied(f, i), sets[f][i]);
                    }
                }
            }
        }
    }

    /** Goes on in one of four ways: with no pairs or with many, at the same time or much later. */
    private static void goOn(MetricLogMonitor m, int places, int later) {
        for (int more = 0; more < 3; more++) {
            for (int pair = 0; later % 2 == 1 && pair < 16; pair++) {
                m.gather(pair % 2, pair / 4, pair % 4);
            }
            m.place(timeOf(places - 1) + (later < 2 ? 0 : 100 * (more + 1)));
        }
    }

    /** "as soon as nothing that may still come can change it": at the places from the progress on, something can. */
    private static void whatIsNotDecidedMayStillChange() {
        for (int hi = 0; hi <= 6; hi++) {
            for (int n = 1; n <= 10; n++) {
                MetricLogMonitor never = untilSecond(hi, n);
                MetricLogMonitor atOnce = untilSecond(hi, n);
                int progress = never.progress(2);
                atOnce.gather(1, 0, 0);
                atOnce.place(timeOf(n - 1));
                never.place(LATEST);
                atOnce.place(LATEST);
                for (int i = 0; i < n; i++) {
                    String what = "UNTIL 0 " + hi + " at " + i + " of " + n + " places, decided " + progress;
                    Due.due(what + ", the second never", never.satisfied(2, i), 0);
                    Due.due(what + ", the second at once", atOnce.satisfied(2, i), i < progress ? 0 : -1);
                }
            }
        }
    }

    /** UNTIL 0 hi over places at which the first holds and the second does not. */
    private static MetricLogMonitor untilSecond(int hi, int places) {
        MetricLogMonitor m = new MetricLogMonitor();
        m.atom(0, 4, 4);
        m.atom(1, 4, 4);
        m.until(0, hi, 0, 1);
        m.watch();
        for (int i = 0; i < places; i++) {
            m.gather(0, 0, 0);
            m.place(timeOf(i));
        }
        return m;
    }
}
