import java.util.function.ToLongFunction;

/** A call with its arguments, what it does to a monitor, and what it answers when it is refused. */
record Call(String text, ToLongFunction<MetricLogMonitor> doing, long refusal) {
    static Call atom(int relation, int a, int b) {
        return number("atom", m -> m.atom(relation, a, b), relation, a, b);
    }

    static Call compare(boolean less, int a, int b) {
        return number("compare " + less, m -> m.compare(less, a, b), a, b);
    }

    static Call not(int f) {
        return number("not", m -> m.not(f), f);
    }

    static Call join(boolean both, int f, int g) {
        return number("join " + both, m -> m.join(both, f, g), f, g);
    }

    static Call exists(int v, int f) {
        return number("exists", m -> m.exists(v, f), v, f);
    }

    static Call previous(int lo, int hi, int f) {
        return number("previous", m -> m.previous(lo, hi, f), lo, hi, f);
    }

    static Call since(int lo, int hi, int f, int g) {
        return number("since", m -> m.since(lo, hi, f, g), lo, hi, f, g);
    }

    static Call until(int lo, int hi, int f, int g) {
        return number("until", m -> m.until(lo, hi, f, g), lo, hi, f, g);
    }

    static Call free(int f) {
        return number("free", m -> m.free(f), f);
    }

    static Call ranged(int f) {
        return number("ranged", m -> m.ranged(f), f);
    }

    static Call bounded(int f) {
        return truth("bounded", m -> m.bounded(f) ? 1 : 0, f);
    }

    static Call watch() {
        return truth("watch", m -> m.watch() ? 1 : 0);
    }

    static Call gather(int relation, int x, int y) {
        return truth("gather", m -> m.gather(relation, x, y) ? 1 : 0, relation, x, y);
    }

    static Call place(int time) {
        return number("place", m -> m.place(time), time);
    }

    static Call progress(int f) {
        return number("progress", m -> m.progress(f), f);
    }

    static Call satisfied(int f, int i) {
        return truth("satisfied", m -> m.satisfied(f, i), f, i);
    }

    static Call rows(int f, int i) {
        return number("rows", m -> m.rows(f, i), f, i);
    }

    long on(MetricLogMonitor monitor) {
        return doing.applyAsLong(monitor);
    }

    private static Call number(String name, ToLongFunction<MetricLogMonitor> doing, int... arguments) {
        return new Call(text(name, arguments), doing, MetricLogMonitor.REFUSED);
    }

    /** A call whose refusal is false or the empty set. */
    private static Call truth(String name, ToLongFunction<MetricLogMonitor> doing, int... arguments) {
        return new Call(text(name, arguments), doing, 0);
    }

    private static String text(String name, int... arguments) {
        StringBuilder text = new StringBuilder(name).append("(");
        for (int n = 0; n < arguments.length; n++) {
            text.append(n == 0 ? "" : ", ").append(arguments[n]);
        }
        return text.append(")").toString();
    }
}
