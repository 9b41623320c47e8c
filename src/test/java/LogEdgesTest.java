import java.util.List;

/** Promises 13 to 16 at their edges: the empty and the full log, the first and last relation, value and time. */
public final class LogEdgesTest {
    private static final int LATEST = Calls.LATEST;

    public static void main(String[] args) {
        watchWithoutFormulas();
        watchWithOneAndWithTwelveFormulas();
        watchWhileWatching();
        watchBeginsWithAnEmptyLog();
        watchBeginsWithNothingGathered();
        gatherOfEachRelation();
        gatherOfEachValue();
        gatherOfWrongArgumentsTogether();
        gatherWithoutWatching();
        gatherOfTheSamePairAgain();
        gatherOfAllPairs();
        gatherWithAFullLog();
        gatherRefusedWithAFullLog();
        gatherWithAFullLogLeavesTheLog();
        placeWithoutWatching();
        placeAtTheFirstAndLastTime();
        placeNotEarlierThanTheLatest();
        placeTwentyFourTimes();
        placeWithNothingGathered();
        placeTakesWhatIsGatheredOnce();
        placeRefusedKeepsWhatIsGathered();
        stopWhenItDoesNotWatch();
        stopKeepsOrForgetsFormulas();
        stopEmptiesTheLog();
        stopForgetsWhatIsGathered();
        stopTwice();
        secondLogIsLikeTheFirst();
        Due.end();
    }

    /** Promise 13: "refused with false when ... there are no formulas". */
    private static void watchWithoutFormulas() {
        Edge.refused(Scene.EMPTY, Call.watch());
        Edge.refused(Scene.FORGOTTEN, Call.watch());
        MetricLogMonitor m = new MetricLogMonitor();
        m.watch();
        m.atom(0, 0, 1);
        Due.due("watch() refused: place(0) later", m.place(0), -1);
        Due.due("watch() refused: gather(0, 0, 0) later", m.gather(0, 0, 0), false);
        Due.due("watch() refused: watch() later", m.watch(), true);
    }

    private static void watchWithOneAndWithTwelveFormulas() {
        for (Scene scene : List.of(Scene.ONE, Scene.ELEVEN, Scene.TWELVE, Scene.STOPPED, Scene.STOPPED_FULL)) {
            Edge.answers(scene, Call.watch(), 1);
            MetricLogMonitor m = scene.make();
            m.watch();
            Due.due(scene.name() + ": watch() and place(0)", m.place(0), 0);
        }
    }

    /** Promise 13: "refused with false when it watches already". */
    private static void watchWhileWatching() {
        Edge.refused(Scene.NO_PLACES, Call.watch());
        Edge.refused(Scene.SOME, Call.watch());
        Edge.refused(Scene.FULL_LOG, Call.watch());
    }

    /** Promise 13: "with an empty log". */
    private static void watchBeginsWithAnEmptyLog() {
        for (Scene scene : List.of(Scene.TWELVE, Scene.STOPPED, Scene.STOPPED_FULL)) {
            MetricLogMonitor m = scene.make();
            m.watch();
            for (int f = 0; f < scene.formulas(); f++) {
                Due.due(scene.name() + ": watch(): progress(" + f + ")", m.progress(f), 0);
                Due.due(scene.name() + ": watch(): satisfied(" + f + ", 0)", m.satisfied(f, 0), 0);
                Due.refused(scene.name() + ": watch(): rows(" + f + ", 0)", m.rows(f, 0));
            }
            Due.due(scene.name() + ": watch(): the earliest time is taken", m.place(0), 0);
            for (int i = 1; i < 24; i++) {
                Due.due(scene.name() + ": watch(): there is room for place " + i, m.place(0), i);
            }
            Due.refused(scene.name() + ": watch(): and for no more", m.place(0));
        }
    }

    /** Promise 13: "no pairs gathered". */
    private static void watchBeginsWithNothingGathered() {
        for (Scene scene : List.of(Scene.TWELVE, Scene.STOPPED, Scene.STOPPED_FULL)) {
            MetricLogMonitor m = scene.make();
            m.watch();
            m.place(0);
            for (int f = 0; f < 3; f++) {
                Due.due(scene.name() + ": watch(): relation " + f + " holds for nothing", m.satisfied(f, 0), 0);
            }
            m = scene.make();
            m.watch();
            for (int pair = 0; pair < 48; pair++) {
                Due.due(scene.name() + ": watch(): pair " + pair + " is not gathered",
                        m.gather(pair / 16, pair / 4 % 4, pair % 4), true);
            }
        }
    }

    /** Promise 14: "relation is not 0 .. 2". */
    private static void gatherOfEachRelation() {
        for (int relation = 0; relation <= 2; relation++) {
            Edge.answers(watching(), Call.gather(relation, 0, 0), 1);
            Edge.answers(watching(), Call.gather(relation, 3, 3), 1);
        }
        for (int relation : Calls.NO_RELATION) {
            for (int value = 0; value <= 3; value++) {
                Edge.refused(Scene.NO_PLACES, Call.gather(relation, value, value));
                Edge.refused(Scene.SOME, Call.gather(relation, value, 3 - value));
            }
        }
    }

    /** Promise 14: "x or y is not 0 .. 3". */
    private static void gatherOfEachValue() {
        for (int value = 0; value <= 3; value++) {
            Edge.answers(watching(), Call.gather(0, value, 0), 1);
            Edge.answers(watching(), Call.gather(2, 3, value), 1);
            for (int bad : Calls.NO_VALUE) {
                for (int relation = 0; relation <= 2; relation++) {
                    Edge.refused(Scene.NO_PLACES, Call.gather(relation, bad, value));
                    Edge.refused(Scene.SOME, Call.gather(relation, value, bad));
                }
            }
        }
    }

    private static void gatherOfWrongArgumentsTogether() {
        for (int relation : Calls.NO_RELATION) {
            for (int value : Calls.NO_VALUE) {
                Edge.refused(Scene.SOME, Call.gather(relation, value, 0));
                Edge.refused(Scene.SOME, Call.gather(relation, value, value));
            }
        }
    }

    /** Promise 14: "when the monitor does not watch". */
    private static void gatherWithoutWatching() {
        for (Scene scene : Scene.ALL) {
            if (!scene.watching()) {
                Edge.refused(scene, Call.gather(0, 0, 0));
                Edge.refused(scene, Call.gather(2, 3, 3));
            }
        }
    }

    /** Promise 14: "Answers whether it was not gathered already", for the next place only. */
    private static void gatherOfTheSamePairAgain() {
        MetricLogMonitor m = watching().make();
        Due.due("gather(1, 2, 3)", m.gather(1, 2, 3), true);
        Due.due("gather(1, 2, 3) again", m.gather(1, 2, 3), false);
        Due.due("gather(1, 2, 3) a third time", m.gather(1, 2, 3), false);
        Due.due("gather(1, 3, 2): the turned pair is another", m.gather(1, 3, 2), true);
        Due.due("gather(0, 2, 3): the relation before it", m.gather(0, 2, 3), true);
        Due.due("gather(2, 2, 3): the relation after it", m.gather(2, 2, 3), true);
        m.place(0);
        Due.due("gather(1, 2, 3) for the next place", m.gather(1, 2, 3), true);
        Due.due("gather(1, 2, 3) for the next place again", m.gather(1, 2, 3), false);
    }

    /** Every pair of every relation has room of its own. */
    private static void gatherOfAllPairs() {
        for (int only = 0; only < 48; only++) {
            MetricLogMonitor m = watching().make();
            int relation = only / 16;
            int x = only / 4 % 4;
            int y = only % 4;
            m.gather(relation, x, y);
            for (int pair = 0; pair < 48; pair++) {
                Due.due("gather: pair " + pair + " after pair " + only,
                        m.gather(pair / 16, pair / 4 % 4, pair % 4), pair != only);
            }
            m = watching().make();
            m.gather(relation, x, y);
            m.place(0);
            for (int f = 0; f < 3; f++) {
                long due = f == relation ? Sets.where(n -> n[0] == x && n[1] == y) : 0;
                Due.due("gather: relation " + f + " with pair " + only + " alone", m.satisfied(f, 0), due);
            }
        }
    }

    /** Promise 14 names all that gather is refused for, and 24 places are not among it: only place is refused then. */
    private static void gatherWithAFullLog() {
        for (int pair = 0; pair < 48; pair++) {
            MetricLogMonitor m = fullWithNothingGathered();
            Call gather = Call.gather(pair / 16, pair / 4 % 4, pair % 4);
            Due.due("24 places: " + gather.text(), gather.on(m), 1);
            Due.due("24 places: " + gather.text() + " again", gather.on(m), 0);
            Due.refused("24 places: place after " + gather.text(), m.place(LATEST));
            Due.due("24 places: " + gather.text() + " after a refused place", gather.on(m), 0);
            m.stop(false);
            m.watch();
            Due.due("24 places: " + gather.text() + " after a stop", gather.on(m), 1);
        }
    }

    private static void gatherRefusedWithAFullLog() {
        for (int relation : Calls.NO_RELATION) {
            Edge.refused(Scene.FULL_LOG, Call.gather(relation, 3, 3));
        }
        for (int value : Calls.NO_VALUE) {
            Edge.refused(Scene.FULL_LOG, Call.gather(0, value, 3));
            Edge.refused(Scene.FULL_LOG, Call.gather(2, 0, value));
        }
    }

    /** Promise 14: "for the next place of the log", so the 24 that are there hold what they held. */
    private static void gatherWithAFullLogLeavesTheLog() {
        MetricLogMonitor m = fullWithNothingGathered();
        String before = Snapshot.of(m, 3, 24);
        for (int pair = 0; pair < 48; pair++) {
            m.gather(pair / 16, pair / 4 % 4, pair % 4);
        }
        Due.same("24 places: gather leaves them", Snapshot.of(m, 3, 24), before);
    }

    private static MetricLogMonitor fullWithNothingGathered() {
        MetricLogMonitor m = watching().make();
        for (int i = 0; i < 24; i++) {
            m.gather(i % 3, i % 4, i / 4 % 4);
            m.place(i);
        }
        return m;
    }

    /** Promise 15: "REFUSED ... when the monitor does not watch". */
    private static void placeWithoutWatching() {
        for (Scene scene : Scene.ALL) {
            if (!scene.watching()) {
                for (int time : new int[] {0, 1, 3, 30, LATEST}) {
                    Edge.refused(scene, Call.place(time));
                }
            }
        }
    }

    /** Promise 15: "time is not 0 .. 1000000". */
    private static void placeAtTheFirstAndLastTime() {
        for (int time : new int[] {0, 1, LATEST - 1, LATEST}) {
            Edge.answers(Scene.NO_PLACES, Call.place(time), 0);
        }
        Edge.answers(Scene.SOME, Call.place(LATEST), 6);
        for (int time : Calls.NO_TIME) {
            Edge.refused(Scene.NO_PLACES, Call.place(time));
            Edge.refused(Scene.SOME, Call.place(time));
            Edge.refused(Scene.FULL_LOG, Call.place(time));
        }
        MetricLogMonitor m = watching().make();
        Due.due("place(1000000)", m.place(LATEST), 0);
        Due.refused("place(1000001) after it", m.place(LATEST + 1));
        Due.refused("place(999999) after it", m.place(LATEST - 1));
        Due.refused("place(0) after it", m.place(0));
        Due.due("place(1000000) again", m.place(LATEST), 1);
    }

    /** Promise 15: "less than that of the latest place". */
    private static void placeNotEarlierThanTheLatest() {
        int latest = Scene.timeOf(5);
        Edge.answers(Scene.SOME, Call.place(latest), 6);
        Edge.answers(Scene.SOME, Call.place(latest + 1), 6);
        Edge.refused(Scene.SOME, Call.place(latest - 1));
        Edge.refused(Scene.SOME, Call.place(0));
        MetricLogMonitor m = watching().make();
        m.place(5);
        m.place(9);
        Due.refused("place(8) after 5 and 9", m.place(8));
        Due.refused("place(5) after 5 and 9: the latest counts, not the first", m.place(5));
        Due.due("place(9) after 5 and 9", m.place(9), 2);
        Due.refused("place(8) after 9 again", m.place(8));
        Due.refused("place(1000001) is not kept as the latest", m.place(LATEST + 1));
        Due.due("place(10) after it", m.place(10), 3);
    }

    /** Promise 15: "there are 24 places". */
    private static void placeTwentyFourTimes() {
        Edge.answers(new Scene("22 places", 12, 22, true, () -> Scene.watching(12, 22)), Call.place(30), 22);
        Edge.answers(new Scene("23 places", 12, 23, true, () -> Scene.watching(12, 23)), Call.place(30), 23);
        for (int time : new int[] {Scene.timeOf(23), 30, LATEST - 1, LATEST}) {
            Edge.refused(Scene.FULL_LOG, Call.place(time));
        }
        MetricLogMonitor m = watching().make();
        for (int i = 0; i < 24; i++) {
            Due.due("place(1000000) number " + i, m.place(LATEST), i);
        }
        Due.refused("place(1000000) a 25th time", m.place(LATEST));
        Due.due("24 places: the progress", m.progress(0), 24);
    }

    private static void placeWithNothingGathered() {
        MetricLogMonitor m = watching().make();
        Due.due("place(0) with nothing gathered", m.place(0), 0);
        for (int f = 0; f < 3; f++) {
            Due.due("place(0) with nothing gathered: relation " + f, m.satisfied(f, 0), 0);
        }
    }

    /** Promise 15: "for the pairs that were gathered since the place before it ... and nothing is gathered then". */
    private static void placeTakesWhatIsGatheredOnce() {
        MetricLogMonitor m = watching().make();
        for (int i = 0; i < 24; i++) {
            if (i % 2 == 0) {
                m.gather(i % 3, i % 4, 3);
            }
            m.place(i);
        }
        for (int i = 0; i < 24; i++) {
            for (int f = 0; f < 3; f++) {
                int x = i % 4;
                long due = i % 2 == 0 && i % 3 == f ? Sets.where(n -> n[0] == x && n[1] == 3) : 0;
                Due.due("place " + i + ": relation " + f, m.satisfied(f, i), due);
            }
        }
    }

    /** Promise 15: "(what is gathered stays)", for each of the reasons. */
    private static void placeRefusedKeepsWhatIsGathered() {
        for (int bad : new int[] {Calls.LEAST, -1, 6, LATEST + 1, Calls.MOST}) {
            MetricLogMonitor m = watching().make();
            m.place(7);
            m.gather(0, 1, 2);
            m.gather(2, 3, 3);
            Due.refused("place(" + bad + ") after 7", m.place(bad));
            Due.due("place(" + bad + ") refused: (1, 2) is gathered", m.gather(0, 1, 2), false);
            Due.due("place(" + bad + ") refused: (2, 1) is not", m.gather(1, 2, 1), true);
            Due.due("place(7) then", m.place(7), 1);
            Due.due("place(7) then: relation 0", m.satisfied(0, 1), Sets.where(n -> n[0] == 1 && n[1] == 2));
            Due.due("place(7) then: relation 1", m.satisfied(1, 1), Sets.where(n -> n[0] == 2 && n[1] == 1));
            Due.due("place(7) then: relation 2", m.satisfied(2, 1), Sets.where(n -> n[0] == 3 && n[1] == 3));
        }
        MetricLogMonitor full = Scene.FULL_LOG.make();
        full.gather(0, 3, 3);
        Due.refused("24 places: place(30)", full.place(30));
        Due.due("24 places: what is gathered stays", full.gather(0, 3, 3), false);
    }

    /** Promise 16: "(Also when it does not watch.)". */
    private static void stopWhenItDoesNotWatch() {
        for (Scene scene : List.of(Scene.EMPTY, Scene.ONE, Scene.ELEVEN, Scene.TWELVE, Scene.STOPPED)) {
            Due.same(scene.name() + ": stop(false) has nothing to change",
                    Whole.of(() -> stopped(scene, false)), Whole.of(scene.maker()));
            Due.same(scene.name() + ": stop(true) leaves an object as new",
                    Whole.of(() -> stopped(scene, true)), Whole.of(MetricLogMonitor::new));
        }
    }

    /** Promise 16: "the formulas stay, or are all gone when all is true". */
    private static void stopKeepsOrForgetsFormulas() {
        for (Scene scene : List.of(Scene.NO_PLACES, Scene.SOME)) {
            Due.same(scene.name() + ": stop(false) leaves the formulas alone",
                    Whole.of(() -> stopped(scene, false)), Whole.of(Scene.ELEVEN.maker()));
        }
        Due.same("24 places: stop(false) leaves the formulas alone",
                Whole.of(() -> stopped(Scene.FULL_LOG, false)), Whole.of(Scene.TWELVE.maker()));
        for (Scene scene : Scene.ALL) {
            Due.same(scene.name() + ": stop(true) leaves an object as new",
                    Whole.of(() -> stopped(scene, true)), Whole.of(MetricLogMonitor::new));
        }
        MetricLogMonitor m = stopped(Scene.FULL_LOG, true);
        for (int f = 0; f < 12; f++) {
            Due.due("stop(true): room for formula " + f, m.atom(0, 0, 1), f);
        }
        Due.refused("stop(true): no room for a thirteenth", m.atom(0, 0, 1));
    }

    /** Promise 16: "the log is empty". */
    private static void stopEmptiesTheLog() {
        MetricLogMonitor m = stopped(Scene.FULL_LOG, false);
        for (int f = 0; f < 12; f++) {
            Due.due("stop(false): progress(" + f + ")", m.progress(f), 0);
            for (int i : new int[] {0, 1, 23}) {
                Due.due("stop(false): satisfied(" + f + ", " + i + ")", m.satisfied(f, i), 0);
                Due.refused("stop(false): rows(" + f + ", " + i + ")", m.rows(f, i));
            }
        }
        m.watch();
        Due.due("stop(false): place(0) is the first place", m.place(0), 0);
        for (int f = 0; f < 10; f++) {
            Due.due("stop(false), one place: progress(" + f + ")", m.progress(f), 1);
        }
        Due.due("stop(false), one place: progress of UNTIL", m.progress(10), 0);
    }

    /** Promise 16: "nothing is gathered". */
    private static void stopForgetsWhatIsGathered() {
        for (boolean all : new boolean[] {false, true}) {
            MetricLogMonitor m = watching().make();
            m.gather(0, 0, 0);
            m.gather(2, 3, 3);
            m.stop(all);
            if (all) {
                m.atom(0, 0, 1);
                m.atom(1, 0, 1);
                m.atom(2, 0, 1);
            }
            m.watch();
            m.place(0);
            Due.due("stop(" + all + "): relation 0 holds for nothing", m.satisfied(0, 0), 0);
            Due.due("stop(" + all + "): relation 2 holds for nothing", m.satisfied(2, 0), 0);
        }
    }

    private static void stopTwice() {
        for (Scene scene : Scene.ALL) {
            for (boolean all : new boolean[] {false, true}) {
                Due.same(scene.name() + ": stop(" + all + ") twice",
                        Whole.of(() -> stoppedTwice(scene, all)), Whole.of(() -> stopped(scene, all)));
            }
        }
    }

    /** Promise 16, "the formulas stay", and promise 13: a log after a stop is watched as by a new object. */
    private static void secondLogIsLikeTheFirst() {
        for (Scene scene : List.of(Scene.NO_PLACES, Scene.SOME, Scene.FULL_LOG)) {
            for (int half = 0; half < 2; half++) {
                MetricLogMonitor again = stopped(scene, false);
                MetricLogMonitor first = Scene.made(scene.formulas());
                Due.same(scene.name() + ": a log after it, formulas from " + 6 * half,
                        secondLog(again, 6 * half), secondLog(first, 6 * half));
            }
        }
    }

    /** All sets of six formulas after each of some places, with other pairs and times than those of the scenes. */
    private static String secondLog(MetricLogMonitor m, int from) {
        StringBuilder text = new StringBuilder();
        m.watch();
        for (int i = 0; i < 6; i++) {
            m.gather(0, 3 - i % 4, i % 2);
            m.gather(1, i % 3, i / 2);
            m.place(2 * i);
            for (int f = from; f < from + 6; f++) {
                text.append(i).append(": progress(").append(f).append(") = ").append(m.progress(f)).append('\n');
                for (int at = 0; at <= i; at++) {
                    text.append(i).append(": satisfied(").append(f).append(", ").append(at).append(") = ");
                    text.append(m.satisfied(f, at)).append('\n');
                }
            }
        }
        return text.toString();
    }

    private static MetricLogMonitor stopped(Scene scene, boolean all) {
        MetricLogMonitor m = scene.make();
        m.stop(all);
        return m;
    }

    private static MetricLogMonitor stoppedTwice(Scene scene, boolean all) {
        MetricLogMonitor m = stopped(scene, all);
        m.stop(all);
        return m;
    }

    /** An object that watches an atom of each relation, with no places and nothing gathered. */
    private static Scene watching() {
        return new Scene("watching three atoms", 3, 0, true, () -> {
            MetricLogMonitor m = new MetricLogMonitor();
            m.atom(0, 0, 1);
            m.atom(1, 0, 1);
            m.atom(2, 0, 1);
            m.watch();
            return m;
        });
    }
}
