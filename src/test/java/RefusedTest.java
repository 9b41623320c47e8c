/** "A call that is refused changes nothing.": in every state, for every call that is refused there. */
public final class RefusedTest {
    public static void main(String[] args) {
        for (Scene scene : Scene.ALL) {
            wrongArguments(scene);
            notBelowTheProgress(scene);
        }
        withoutFormulas();
        withTwelveFormulas();
        whileWatching();
        whileNotWatching();
        earlierThanTheLatestPlace();
        withTwentyFourPlaces();
        Due.end();
    }

    private static void wrongArguments(Scene scene) {
        for (Call call : Calls.wrong(scene.formulas())) {
            Edge.refused(scene, call);
        }
    }

    private static void notBelowTheProgress(Scene scene) {
        for (int f = 0; f < scene.formulas(); f++) {
            int progress = scene.make().progress(f);
            Edge.refused(scene, Call.satisfied(f, progress));
            Edge.refused(scene, Call.rows(f, progress));
        }
    }

    private static void withoutFormulas() {
        for (Scene scene : Scene.ALL) {
            if (scene.formulas() == 0) {
                Edge.refused(scene, Call.watch());
            }
        }
    }

    private static void withTwelveFormulas() {
        for (Scene scene : Scene.ALL) {
            if (scene.formulas() == Scene.MOST_FORMULAS) {
                refuseGoodMakings(scene);
            }
        }
    }

    private static void whileWatching() {
        for (Scene scene : Scene.ALL) {
            if (scene.watching()) {
                refuseGoodMakings(scene);
                Edge.refused(scene, Call.watch());
            }
        }
    }

    private static void refuseGoodMakings(Scene scene) {
        for (Call call : Calls.goodMakings()) {
            Edge.refused(scene, call);
        }
    }

    private static void whileNotWatching() {
        for (Scene scene : Scene.ALL) {
            if (!scene.watching()) {
                Edge.refused(scene, Call.gather(0, 0, 0));
                Edge.refused(scene, Call.gather(2, 3, 3));
                Edge.refused(scene, Call.place(0));
                Edge.refused(scene, Call.place(Calls.LATEST));
            }
        }
    }

    private static void earlierThanTheLatestPlace() {
        for (Scene scene : Scene.ALL) {
            if (scene.places() > 0) {
                Edge.refused(scene, Call.place(Scene.timeOf(scene.places() - 1) - 1));
                Edge.refused(scene, Call.place(0));
            }
        }
    }

    private static void withTwentyFourPlaces() {
        Edge.refused(Scene.FULL_LOG, Call.place(Scene.timeOf(23)));
        Edge.refused(Scene.FULL_LOG, Call.place(Scene.timeOf(23) + 1));
        Edge.refused(Scene.FULL_LOG, Call.place(Calls.LATEST));
    }
}
