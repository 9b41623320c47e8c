import java.io.IOException;
import java.lang.reflect.Field;
import java.lang.reflect.Method;
import java.lang.reflect.Modifier;
import java.nio.file.Files;
import java.nio.file.Path;
import java.util.ArrayList;
import java.util.List;
import java.util.Set;
import java.util.TreeSet;
import java.util.regex.Matcher;
import java.util.regex.Pattern;

/** The rules of LANGUAGE.md, so far as a look at the class, at its text and at many calls can tell. */
public final class LanguageTest {
    private static final Path SOURCE = Path.of("src/main/java/MetricLogMonitor.java");
    private static final Set<String> LIBRARY = Set.of("java.util.ArrayList", "java.util.List", "java.util.Arrays",
            "java.util.Iterator");
    private static final List<String> NOT_USED = List.of("throw", "throws", "try", "catch", "finally", "synchronized",
            "assert", "package", "native", "volatile", "protected", "hashCode", "toString", "equals", "Object", "var");
    private static final Set<Class<?>> CONSTANTS = Set.of(int.class, long.class, boolean.class, char.class,
            String.class, int[].class, long[].class, char[].class, byte[].class);

    public static void main(String[] args) throws IOException {
        List<Class<?>> classes = new ArrayList<>(List.of(MetricLogMonitor.class));
        classes.addAll(List.of(MetricLogMonitor.class.getDeclaredClasses()));
        String text = withoutComments(Files.readString(SOURCE));
        classesInside(classes);
        namesOfPublicMethods(classes);
        staticFields(classes);
        sizes(classes);
        imports(text);
        words(text);
        lengthsOfMethods(text);
        callsBeyondTheLast();
        Due.end();
    }

    private static String withoutComments(String text) {
        return Pattern.compile("/\\*.*?\\*/", Pattern.DOTALL).matcher(text).replaceAll("").replaceAll("//.*", "");
    }

    /** Rules 1 and 2. */
    private static void classesInside(List<Class<?>> classes) {
        for (Class<?> inside : classes.subList(1, classes.size())) {
            int modifiers = inside.getModifiers();
            Due.due(inside + " is static", Modifier.isStatic(modifiers), true);
            Due.due(inside + " is public", Modifier.isPublic(modifiers), false);
            Due.due(inside + " is protected", Modifier.isProtected(modifiers), false);
            Due.due(inside + " has classes inside", inside.getDeclaredClasses().length, 0);
        }
    }

    /** Rule 1: "No private method bears the name of a public one." */
    private static void namesOfPublicMethods(List<Class<?>> classes) {
        Set<String> names = new TreeSet<>();
        for (Method method : MetricLogMonitor.class.getMethods()) {
            names.add(method.getName());
        }
        for (Class<?> each : classes) {
            for (Method method : each.getDeclaredMethods()) {
                boolean isFace = each == MetricLogMonitor.class && Modifier.isPublic(method.getModifiers());
                Due.due(method + " has a public one's name", !isFace && names.contains(method.getName()), false);
            }
        }
    }

    /** Rule 5. */
    private static void staticFields(List<Class<?>> classes) {
        for (Class<?> each : classes) {
            for (Field field : each.getDeclaredFields()) {
                if (Modifier.isStatic(field.getModifiers())) {
                    Due.due(field + " is final", Modifier.isFinal(field.getModifiers()), true);
                    Due.due(field + " is a constant", CONSTANTS.contains(field.getType()), true);
                }
            }
        }
    }

    /** Rule 11, but for the lengths of methods. */
    private static void sizes(List<Class<?>> classes) {
        Due.due("more than twelve classes", classes.size() > 12, false);
        for (Class<?> each : classes) {
            int fields = 0;
            for (Field field : each.getDeclaredFields()) {
                fields += Modifier.isStatic(field.getModifiers()) ? 0 : 1;
            }
            Due.due(each + " has more than twenty fields", fields > 20, false);
            for (Method method : each.getDeclaredMethods()) {
                Due.due(method + " has more than seven parameters", method.getParameterCount() > 7, false);
            }
        }
    }

    /** Rule 4. */
    private static void imports(String text) {
        Matcher matcher = Pattern.compile("import ([^;]*);").matcher(text);
        while (matcher.find()) {
            Due.due("import " + matcher.group(1), LIBRARY.contains(matcher.group(1)), true);
        }
    }

    /** Rules 2, 3, 4 and 6: what is never written in the text. */
    private static void words(String text) {
        for (String word : NOT_USED) {
            Due.due("the word " + word, Pattern.compile("\\b" + word + "\\b").matcher(text).find(), false);
        }
        for (String sign : List.of("->", "::", "@", "static {", "Exact(")) {
            Due.due("the sign " + sign, text.contains(sign), false);
        }
        Due.due("a class without a name", Pattern.compile("new \\w+(<.*>)?\\(.*\\) \\{").matcher(text).find(), false);
    }

    /** Rule 11: a method's last line is the first one after it that closes at its own depth. */
    private static void lengthsOfMethods(String text) {
        String[] lines = text.split("\n");
        for (int from = 0; from < lines.length; from++) {
            if (!lines[from].matches(" +.*\\) \\{") || lines[from].matches(" +(if|for|while|\\}).*")) {
                continue;
            }
            String end = lines[from].replaceAll("\\S.*", "") + "}";
            int to = from;
            while (to < lines.length && !lines[to].equals(end)) {
                to++;
            }
            Due.due("longer than sixty lines:" + lines[from], to - from > 60, false);
        }
    }

    /** Rule 7: no call throws, after the 512th neither, whatever its arguments are. */
    private static void callsBeyondTheLast() {
        MetricLogMonitor m = new MetricLogMonitor();
        int done = 0;
        for (int round = 0; round < 40; round++) {
            for (Call call : Calls.wrong(0)) {
                call.on(m);
                done++;
            }
            for (Call call : Calls.goodMakings()) {
                call.on(m);
                done++;
            }
            m.watch();
            for (int i = 0; i < 30; i++) {
                m.gather(i % 3, i % 4, i / 4 % 4);
                m.place(round * 100 + i);
                m.satisfied(i % 14, i);
                m.rows(i % 14, i);
                done += 4;
            }
            if (round % 3 == 2) {
                m.stop(round % 2 == 0);
            }
        }
        Due.due("calls beyond the 512th were done", done > 10000, true);
    }
}
