import java.lang.reflect.Constructor;
import java.lang.reflect.Field;
import java.lang.reflect.Method;
import java.lang.reflect.Modifier;
import java.util.ArrayList;
import java.util.Collections;
import java.util.List;

/** The public face: every constant, constructor and method of the document, and nothing else that is not private. */
public final class FaceTest {
    private static final List<String> FACE = List.of(
            "public MetricLogMonitor()",
            "public boolean MetricLogMonitor.bounded(int)",
            "public boolean MetricLogMonitor.gather(int,int,int)",
            "public boolean MetricLogMonitor.watch()",
            "public int MetricLogMonitor.atom(int,int,int)",
            "public int MetricLogMonitor.compare(boolean,int,int)",
            "public int MetricLogMonitor.exists(int,int)",
            "public int MetricLogMonitor.free(int)",
            "public int MetricLogMonitor.join(boolean,int,int)",
            "public int MetricLogMonitor.not(int)",
            "public int MetricLogMonitor.place(int)",
            "public int MetricLogMonitor.previous(int,int,int)",
            "public int MetricLogMonitor.progress(int)",
            "public int MetricLogMonitor.ranged(int)",
            "public int MetricLogMonitor.rows(int,int)",
            "public int MetricLogMonitor.since(int,int,int,int)",
            "public int MetricLogMonitor.until(int,int,int,int)",
            "public long MetricLogMonitor.satisfied(int,int)",
            "public static final int MetricLogMonitor.ALWAYS",
            "public static final int MetricLogMonitor.REFUSED",
            "public void MetricLogMonitor.stop(boolean)");

    public static void main(String[] args) {
        List<String> members = new ArrayList<>();
        for (Constructor<?> constructor : MetricLogMonitor.class.getDeclaredConstructors()) {
            addIfSeen(members, constructor.getModifiers(), constructor.toString());
        }
        for (Method method : MetricLogMonitor.class.getDeclaredMethods()) {
            addIfSeen(members, method.getModifiers(), method.toString());
        }
        for (Field field : MetricLogMonitor.class.getDeclaredFields()) {
            addIfSeen(members, field.getModifiers(), field.toString());
        }
        Collections.sort(members);
        Due.same("the face", String.join("\n", members), String.join("\n", FACE));
        Due.due("the class's modifiers", MetricLogMonitor.class.getModifiers(), Modifier.PUBLIC | Modifier.FINAL);
        Due.due("REFUSED", MetricLogMonitor.REFUSED, -1);
        Due.due("ALWAYS", MetricLogMonitor.ALWAYS, -1);
        Due.end();
    }

    private static void addIfSeen(List<String> members, int modifiers, String text) {
        if (!Modifier.isPrivate(modifiers)) {
            members.add(text);
        }
    }
}
