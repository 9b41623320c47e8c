import java.util.List;
import java.util.function.Supplier;

/**
 * All that an object in a state answers, as lines of text: to every call that only asks, and to calls that go on from
 * there in several ways. Each way has a new object in that state, so that none comes near its 512th call.
 */
final class Whole {
    private static final int FORMULAS_AT_ONCE = 5;

    private final StringBuilder text = new StringBuilder();

    private Whole() {
    }

    static String of(Supplier<MetricLogMonitor> maker) {
        Whole whole = new Whole();
        whole.askOfFormulas(maker.get());
        for (int f = -1; f <= Scene.MOST_FORMULAS; f += FORMULAS_AT_ONCE) {
            whole.askOfPlaces(maker.get(), f, Math.min(f + FORMULAS_AT_ONCE, Scene.MOST_FORMULAS + 1));
        }
        whole.gatherEveryPair(maker.get());
        whole.addPlaces(maker.get());
        whole.makeMore(maker.get());
        whole.stopAndGoOn(maker.get(), false);
        whole.stopAndGoOn(maker.get(), true);
        return whole.text.toString();
    }

    private void askOfFormulas(MetricLogMonitor m) {
        for (int f = -1; f <= Scene.MOST_FORMULAS; f++) {
            for (Call call : List.of(Call.free(f), Call.ranged(f), Call.bounded(f), Call.progress(f))) {
                note(m, call);
            }
        }
    }

    private void askOfPlaces(MetricLogMonitor m, int fromFormula, int toFormula) {
        for (int f = fromFormula; f < toFormula; f++) {
            for (int i = -1; i <= Scene.MOST_PLACES; i++) {
                note(m, Call.satisfied(f, i));
                note(m, Call.rows(f, i));
            }
        }
    }

    /** Tells which pairs were gathered. */
    private void gatherEveryPair(MetricLogMonitor m) {
        for (int pair = 0; pair < 48; pair++) {
            note(m, Call.gather(pair / 16, pair / 4 % 4, pair % 4));
        }
    }

    /** Tells the latest time, how many places fit, what was gathered, and what is still to be decided. */
    private void addPlaces(MetricLogMonitor m) {
        for (int time = 0; time <= Scene.timeOf(Scene.MOST_PLACES); time++) {
            note(m, Call.place(time));
        }
        for (int f = 0; f < Scene.MOST_FORMULAS; f++) {
            for (int i = 0; i < Scene.MOST_PLACES; i++) {
                note(m, Call.satisfied(f, i));
            }
        }
    }

    /** Tells how many formulas there are and whether the object watches. */
    private void makeMore(MetricLogMonitor m) {
        for (Call call : Calls.goodMakings()) {
            note(m, call);
        }
        note(m, Call.watch());
        note(m, Call.gather(0, 2, 3));
        note(m, Call.place(1000000));
        askOfFormulas(m);
    }

    private void stopAndGoOn(MetricLogMonitor m, boolean all) {
        m.stop(all);
        askOfFormulas(m);
        note(m, Call.watch());
        note(m, Call.atom(0, 0, 1));
        note(m, Call.watch());
        note(m, Call.place(0));
        note(m, Call.gather(0, 0, 0));
        note(m, Call.place(0));
        for (int f = 0; f < Scene.MOST_FORMULAS; f++) {
            note(m, Call.satisfied(f, 0));
            note(m, Call.rows(f, 1));
        }
    }

    private void note(MetricLogMonitor m, Call call) {
        text.append(call.text()).append(" = ").append(call.on(m)).append('\n');
    }
}
