import java.util.HashMap;
import java.util.Map;

/** What a call answers to an object in a state; and if it is refused, that every answer is what it was before it. */
final class Edge {
    private static final Map<String, String> BEFORE = new HashMap<>();

    private Edge() {
    }

    static void answers(Scene scene, Call call, long want) {
        Due.due(scene.name() + ": " + call.text(), call.on(scene.make()), want);
    }

    static void refused(Scene scene, Call call) {
        answers(scene, call, call.refusal());
        changesNothing(scene, call);
    }

    static void changesNothing(Scene scene, Call call) {
        String before = BEFORE.computeIfAbsent(scene.name(), name -> Whole.of(scene.maker()));
        Due.same(scene.name() + ": " + call.text() + " changes nothing", Whole.of(() -> after(scene, call)), before);
    }

    private static MetricLogMonitor after(Scene scene, Call call) {
        MetricLogMonitor m = scene.make();
        call.on(m);
        return m;
    }
}
