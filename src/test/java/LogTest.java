/** Promises 13 to 16: watch, gather, place and stop. */
public final class LogTest {
    private static final int LEAST = Integer.MIN_VALUE;
    private static final int MOST = Integer.MAX_VALUE;

    public static void main(String[] args) {
        watch();
        gather();
        gatherRefused();
        gatherOfEveryPair();
        place();
        placeRefused();
        placeRefusedKeepsWhatIsGathered();
        fullLog();
        stopKeepsFormulas();
        stopForgetsFormulas();
        stopWithoutWatching();
        Due.end();
    }

    private static MetricLogMonitor watched() {
        MetricLogMonitor m = new MetricLogMonitor();
        m.atom(0, 0, 1);
        m.atom(1, 0, 1);
        m.atom(2, 0, 1);
        m.watch();
        return m;
    }

    private static void watch() {
        MetricLogMonitor m = new MetricLogMonitor();
        Due.due("watch() without formulas", m.watch(), false);
        Due.due("watch() refused: formulas can be made", m.atom(0, 0, 1), 0);
        Due.due("watch()", m.watch(), true);
        Due.due("watch(): an empty log", m.progress(0), 0);
        m.gather(0, 1, 1);
        m.place(7);
        m.gather(0, 2, 2);
        Due.due("watch() while it watches", m.watch(), false);
        Due.due("watch() refused: the log stays", m.progress(0), 1);
        Due.due("watch() refused: what is gathered stays", m.gather(0, 2, 2), false);
        m.stop(false);
        Due.due("watch() again", m.watch(), true);
        Due.due("watch() again: an empty log", m.progress(0), 0);
        Due.due("watch() again: nothing gathered", m.gather(0, 2, 2), true);
        Due.due("watch() again: place 0, at an earlier time", m.place(3), 0);
        Due.due("watch() again: the new pairs only", m.satisfied(0, 0), Sets.where(x -> x[0] == 2 && x[1] == 2));
    }

    private static void gather() {
        MetricLogMonitor m = watched();
        Due.due("gather(0, 1, 2)", m.gather(0, 1, 2), true);
        Due.due("gather(0, 1, 2) again", m.gather(0, 1, 2), false);
        Due.due("gather of the turned pair", m.gather(0, 2, 1), true);
        Due.due("gather for another relation", m.gather(1, 1, 2), true);
        m.place(0);
        Due.due("gather: relation 0", m.satisfied(0, 0),
                Sets.where(x -> x[0] == 1 && x[1] == 2 || x[0] == 2 && x[1] == 1));
        Due.due("gather: relation 1", m.satisfied(1, 0), Sets.where(x -> x[0] == 1 && x[1] == 2));
        Due.due("gather: relation 2", m.satisfied(2, 0), 0);
        Due.due("gather(0, 1, 2) for the next place", m.gather(0, 1, 2), true);
    }

    private static void gatherRefused() {
        MetricLogMonitor m = watched();
        for (int bad : new int[] {-1, 3, 4, LEAST, MOST}) {
            Due.due("gather(" + bad + ", 0, 0)", m.gather(bad, 0, 0), false);
        }
        for (int bad : new int[] {-1, 4, 5, 16, LEAST, MOST}) {
            Due.due("gather(0, " + bad + ", 0)", m.gather(0, bad, 0), false);
            Due.due("gather(0, 0, " + bad + ")", m.gather(0, 0, bad), false);
        }
        m.place(0);
        for (int f = 0; f < 3; f++) {
            Due.due("gather refused: nothing holds for " + f, m.satisfied(f, 0), 0);
        }
        m.stop(false);
        Due.due("gather without watching", m.gather(0, 1, 1), false);
        m.watch();
        Due.due("gather without watching: nothing gathered", m.gather(0, 1, 1), true);
    }

    private static void gatherOfEveryPair() {
        MetricLogMonitor m = watched();
        for (int relation = 0; relation < 3; relation++) {
            for (int x = 0; x < 4; x++) {
                for (int y = 0; y < 4; y++) {
                    String call = "gather(" + relation + ", " + x + ", " + y + ")";
                    Due.due(call, m.gather(relation, x, y), true);
                    Due.due(call + " again", m.gather(relation, x, y), false);
                }
            }
        }
        m.place(0);
        for (int f = 0; f < 3; f++) {
            Due.due("gather: relation " + f + " holds for all pairs", m.satisfied(f, 0), Sets.ALL);
        }
    }

    private static void place() {
        MetricLogMonitor m = watched();
        m.gather(0, 1, 1);
        Due.due("place(0)", m.place(0), 0);
        Due.due("place(0) at the same time", m.place(0), 1);
        m.gather(0, 2, 2);
        m.gather(0, 3, 3);
        Due.due("place(999999)", m.place(999999), 2);
        Due.due("place(1000000)", m.place(1000000), 3);
        Due.due("place(1000000) at the same time", m.place(1000000), 4);
        Due.due("place: progress", m.progress(0), 5);
        Due.due("place 0", m.satisfied(0, 0), Sets.where(x -> x[0] == 1 && x[1] == 1));
        Due.due("place 1", m.satisfied(0, 1), 0);
        Due.due("place 2", m.satisfied(0, 2), Sets.where(x -> x[0] >= 2 && x[1] == x[0]));
        Due.due("place 3", m.satisfied(0, 3), 0);
    }

    private static void placeRefused() {
        MetricLogMonitor m = new MetricLogMonitor();
        m.atom(0, 0, 1);
        Due.refused("place(0) without watching", m.place(0));
        m.watch();
        Due.due("place without watching: the log stays empty", m.progress(0), 0);
        for (int bad : new int[] {-1, 1000001, LEAST, MOST}) {
            Due.refused("place(" + bad + ") first", m.place(bad));
        }
        Due.due("place(10)", m.place(10), 0);
        for (int bad : new int[] {-1, 0, 9, 1000001, LEAST, MOST}) {
            Due.refused("place(" + bad + ") after 10", m.place(bad));
        }
        Due.due("place refused: the log stays", m.progress(0), 1);
        Due.due("place refused: the latest time stays", m.place(10), 1);
    }

    private static void placeRefusedKeepsWhatIsGathered() {
        MetricLogMonitor m = watched();
        m.place(10);
        m.gather(1, 3, 2);
        Due.refused("place(9)", m.place(9));
        Due.refused("place(1000001)", m.place(1000001));
        Due.due("place refused: the pair is still gathered", m.gather(1, 3, 2), false);
        Due.due("place(10)", m.place(10), 1);
        Due.due("place refused: the pair is at the next place", m.satisfied(1, 1),
                Sets.where(x -> x[0] == 3 && x[1] == 2));
    }

    private static void fullLog() {
        MetricLogMonitor m = watched();
        for (int i = 0; i < 24; i++) {
            m.gather(0, i % 4, i / 4 % 4);
            Due.due("place " + i, m.place(i), i);
        }
        Due.due("24 places: gather", m.gather(1, 1, 1), true);
        String before = Snapshot.of(m, 3, 25);
        Due.refused("24 places: one more", m.place(24));
        Due.refused("24 places: one more at the same time", m.place(23));
        Due.due("24 places: what is gathered stays", m.gather(1, 1, 1), false);
        Due.same("24 places: a refused place changes nothing", Snapshot.of(m, 3, 25), before);
    }

    private static void stopKeepsFormulas() {
        MetricLogMonitor m = watched();
        m.gather(0, 1, 1);
        m.place(50);
        m.gather(0, 2, 2);
        m.stop(false);
        Due.due("stop(false): progress", m.progress(0), 0);
        Due.due("stop(false): satisfied", m.satisfied(0, 0), 0);
        Due.refused("stop(false): rows", m.rows(0, 0));
        Due.refused("stop(false): place", m.place(60));
        Due.due("stop(false): gather", m.gather(0, 1, 1), false);
        Due.due("stop(false): the next formula", m.not(0), 3);
        Due.due("stop(false): watch()", m.watch(), true);
        Due.due("stop(false): place 0 at an earlier time", m.place(0), 0);
        Due.due("stop(false): nothing was gathered", m.satisfied(0, 0), 0);
        Due.due("stop(false): the new formula", m.satisfied(3, 0), Sets.ALL);
    }

    private static void stopForgetsFormulas() {
        MetricLogMonitor m = watched();
        m.gather(0, 1, 1);
        m.place(50);
        m.gather(0, 2, 2);
        m.stop(true);
        Due.refused("stop(true): progress", m.progress(0));
        Due.refused("stop(true): free", m.free(0));
        Due.due("stop(true): watch()", m.watch(), false);
        Due.due("stop(true): the first formula again", m.atom(0, 0, 0), 0);
        Due.refused("stop(true): no second formula", m.free(1));
        Due.due("stop(true): watch() then", m.watch(), true);
        Due.due("stop(true): place 0 at an earlier time", m.place(0), 0);
        Due.due("stop(true): nothing was gathered", m.satisfied(0, 0), 0);
        m.stop(true);
        for (int f = 0; f < 12; f++) {
            Due.due("stop(true): formula " + f, m.compare(true, 0, 1), f);
        }
    }

    private static void stopWithoutWatching() {
        MetricLogMonitor m = new MetricLogMonitor();
        m.stop(false);
        m.stop(true);
        Due.due("stop without watching: the first formula", m.atom(0, 0, 1), 0);
        m.stop(false);
        Due.due("stop(false) without watching: the formula stays", m.free(0), 3);
        Due.due("stop(false) without watching: the next formula", m.atom(0, 0, 1), 1);
        m.stop(true);
        Due.refused("stop(true) without watching: the formulas are gone", m.free(0));
        Due.due("stop(true) without watching: watch()", m.watch(), false);
    }
}
