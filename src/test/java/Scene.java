import java.util.List;
import java.util.function.Supplier;

/**
 * A state that an object may be in, with the way to bring a new object into it: so it can be made anew for each
 * question, and no object comes near its 512th call.
 */
record Scene(String name, int formulas, int places, boolean watching, Supplier<MetricLogMonitor> maker) {
    static final int MOST_FORMULAS = 12;
    static final int MOST_PLACES = 24;
    private static final int SOME_PLACES = 6;

    static final Scene EMPTY = new Scene("empty", 0, 0, false, MetricLogMonitor::new);
    static final Scene ONE = new Scene("one formula", 1, 0, false, () -> made(1));
    static final Scene ELEVEN = new Scene("eleven formulas", 11, 0, false, () -> made(11));
    static final Scene TWELVE = new Scene("twelve formulas", 12, 0, false, () -> made(12));
    static final Scene NO_PLACES = new Scene("watching, no places", 11, 0, true, () -> watching(11, 0));
    static final Scene SOME = new Scene("watching, 6 places", 11, SOME_PLACES, true, () -> watching(11, SOME_PLACES));
    static final Scene FULL_LOG = new Scene("watching, 24 places", 12, 24, true, () -> watching(12, 24));
    static final Scene STOPPED = new Scene("stopped", 11, 0, false, () -> stopped(11, SOME_PLACES, false));
    static final Scene STOPPED_FULL = new Scene("stopped when full", 12, 0, false, () -> stopped(12, 24, false));
    static final Scene FORGOTTEN = new Scene("all stopped", 0, 0, false, () -> stopped(12, 24, true));

    static final List<Scene> ALL = List.of(EMPTY, ONE, ELEVEN, TWELVE, NO_PLACES, SOME, FULL_LOG, STOPPED, STOPPED_FULL,
            FORGOTTEN);

    MetricLogMonitor make() {
        return maker.get();
    }

    /** The time of a place in these states: some places have the time of the one before them. */
    static int timeOf(int place) {
        return 3 + place * 4 / 5;
    }

    /** An object with the first of twelve formulas, one of every kind, the atoms of all three relations first. */
    static MetricLogMonitor made(int formulas) {
        List<Call> all = List.of(
                Call.atom(0, 0, 1),
                Call.atom(1, 1, 2),
                Call.atom(2, 2, 0),
                Call.compare(false, 2, 5),
                Call.not(0),
                Call.join(true, 0, 1),
                Call.join(false, 3, 1),
                Call.exists(1, 5),
                Call.previous(1, 3, 6),
                Call.since(0, MetricLogMonitor.ALWAYS, 4, 1),
                Call.until(0, 4, 4, 1),
                Call.compare(true, 0, 1));
        MetricLogMonitor m = new MetricLogMonitor();
        for (int f = 0; f < formulas; f++) {
            all.get(f).on(m);
        }
        return m;
    }

    static MetricLogMonitor watching(int formulas, int places) {
        MetricLogMonitor m = made(formulas);
        m.watch();
        for (int i = 0; i < places; i++) {
            gatherFor(m, i);
            m.place(timeOf(i));
        }
        gatherFor(m, places);
        return m;
    }

    private static void gatherFor(MetricLogMonitor m, int place) {
        m.gather(0, place % 4, place / 4 % 4);
        m.gather(1, place / 2 % 4, 3 - place % 4);
        m.gather(2, (place + 1) % 4, place % 3);
    }

    private static MetricLogMonitor stopped(int formulas, int places, boolean all) {
        MetricLogMonitor m = watching(formulas, places);
        m.stop(all);
        return m;
    }
}
