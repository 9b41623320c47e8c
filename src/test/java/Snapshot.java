/** What a monitor answers to the calls that change nothing, as a text: a refused call must leave it the same. */
final class Snapshot {
    private Snapshot() {
    }

    /** Asks of the first formulas and places only, so that an object stays below its 512 calls. */
    static String of(MetricLogMonitor monitor, int formulas, int places) {
        StringBuilder text = new StringBuilder();
        for (int f = 0; f < formulas; f++) {
            text.append(f).append(": free ").append(monitor.free(f));
            text.append(" ranged ").append(monitor.ranged(f));
            text.append(" bounded ").append(monitor.bounded(f));
            text.append(" progress ").append(monitor.progress(f));
            for (int i = 0; i < places; i++) {
                text.append(" at ").append(i).append(" ").append(monitor.satisfied(f, i));
                text.append("/").append(monitor.rows(f, i));
            }
            text.append("\n");
        }
        return text.toString();
    }
}
