import java.util.ArrayList;
import java.util.List;
import java.util.Random;

/** Runs of 512 calls from fixed seeds, good and bad ones mixed: every answer is compared with the plain model's. */
public final class LongRunsTest {
    private static final int RUNS = 600;
    private static final int CALLS = 512;
    /** What times and intervals are multiples of, run by run: small numbers, and some that reach the latest time. */
    private static final int[] UNITS = {1, 1, 1000, 30000, 333333, 500000};
    private static final int[] ODD = {Integer.MIN_VALUE, -2, -1, 3, 8, 12, 24, 1000000, 1000001, Integer.MAX_VALUE};

    private final Random random;
    private final int unit;
    private final MetricLogMonitor monitor = new MetricLogMonitor();
    private final PlainModel model = new PlainModel();
    private final List<String> calls = new ArrayList<>();
    private int time = 0;

    private LongRunsTest(int run) {
        random = new Random(run);
        unit = UNITS[run % UNITS.length];
    }

    public static void main(String[] args) {
        for (int run = 0; run < RUNS && Due.wrongSoFar() == 0; run++) {
            new LongRunsTest(run).run();
        }
        Due.end();
    }

    private void run() {
        for (int call = 0; call < CALLS && Due.wrongSoFar() == 0; call++) {
            if (model.watches()) {
                callWhileWatching();
            } else {
                callBeforeWatching();
            }
        }
    }

    private void callBeforeWatching() {
        int draw = random.nextInt(100);
        if (draw < 60) {
            make();
        } else if (draw < 85) {
            ask();
        } else if (draw < 90 || model.formulas() >= 8) {
            watch();
        } else if (draw < 93) {
            stop();
        } else {
            grow();
        }
    }

    private void callWhileWatching() {
        int draw = random.nextInt(1000);
        if (draw < 500) {
            grow();
        } else if (draw < 960) {
            ask();
        } else if (draw < 985) {
            make();
        } else if (draw < 990 || model.places() < 12) {
            watch();
        } else {
            stop();
        }
    }

    private void make() {
        switch (random.nextInt(8)) {
            case 0: {
                int relation = number(3);
                int a = term();
                int b = term();
                due("atom(" + relation + ", " + a + ", " + b + ")", monitor.atom(relation, a, b),
                        model.atom(relation, a, b));
                break;
            }
            case 1: {
                boolean less = random.nextBoolean();
                int a = term();
                int b = term();
                due("compare(" + less + ", " + a + ", " + b + ")", monitor.compare(less, a, b),
                        model.compare(less, a, b));
                break;
            }
            case 2: {
                int f = formula();
                due("not(" + f + ")", monitor.not(f), model.not(f));
                break;
            }
            case 3: {
                boolean both = random.nextBoolean();
                int f = formula();
                int g = formula();
                due("join(" + both + ", " + f + ", " + g + ")", monitor.join(both, f, g), model.join(both, f, g));
                break;
            }
            case 4: {
                int v = number(3);
                int f = formula();
                due("exists(" + v + ", " + f + ")", monitor.exists(v, f), model.exists(v, f));
                break;
            }
            default:
                makeWithInterval();
        }
    }

    private void makeWithInterval() {
        int lo = duration(random.nextInt(3) == 0 ? 8 : 2);
        int hi = random.nextInt(5) == 0 ? -1 : Math.max(lo, 0) + duration(6);
        int f = formula();
        int g = formula();
        String rest = "(" + lo + ", " + hi + ", " + f;
        switch (random.nextInt(4)) {
            case 0:
                due("previous" + rest + ")", monitor.previous(lo, hi, f), model.previous(lo, hi, f));
                break;
            case 1:
                due("since" + rest + ", " + g + ")", monitor.since(lo, hi, f, g), model.since(lo, hi, f, g));
                break;
            default:
                due("until" + rest + ", " + g + ")", monitor.until(lo, hi, f, g), model.until(lo, hi, f, g));
        }
    }

    private void grow() {
        if (random.nextInt(5) > 0) {
            int relation = number(3);
            int x = number(4);
            int y = number(4);
            due("gather(" + relation + ", " + x + ", " + y + ")", monitor.gather(relation, x, y),
                    model.gather(relation, x, y));
            return;
        }
        int next = random.nextInt(12) == 0 ? duration(40) : time + duration(4);
        int place = model.place(next);
        due("place(" + next + ")", monitor.place(next), place);
        if (place >= 0) {
            time = next;
        }
    }

    private void ask() {
        int f = formula();
        int i = number(Math.max(1, model.places()));
        switch (random.nextInt(6)) {
            case 0:
                due("free(" + f + ")", monitor.free(f), model.free(f));
                break;
            case 1:
                due("ranged(" + f + ")", monitor.ranged(f), model.ranged(f));
                break;
            case 2:
                due("bounded(" + f + ")", monitor.bounded(f), model.bounded(f));
                break;
            case 3:
                due("progress(" + f + ")", monitor.progress(f), model.progress(f));
                break;
            case 4:
                due("satisfied(" + f + ", " + i + ")", monitor.satisfied(f, i), model.satisfied(f, i));
                break;
            default:
                due("rows(" + f + ", " + i + ")", monitor.rows(f, i), model.rows(f, i));
        }
    }

    private void watch() {
        boolean began = model.watch();
        due("watch()", monitor.watch(), began);
        if (began) {
            time = 0;
        }
    }

    private void stop() {
        boolean all = random.nextInt(3) > 0;
        calls.add("stop(" + all + ")");
        monitor.stop(all);
        model.stop(all);
    }

    private int number(int below) {
        return random.nextInt(40) == 0 ? ODD[random.nextInt(ODD.length)] : random.nextInt(below);
    }

    /** A multiple of the unit, or now and then one beside it. */
    private int duration(int below) {
        return number(below) * unit + (random.nextInt(10) == 0 ? random.nextInt(3) - 1 : 0);
    }

    private int term() {
        return number(random.nextInt(3) == 0 ? 8 : 3);
    }

    private int formula() {
        return number(Math.max(1, model.formulas()));
    }

    private void due(String call, boolean got, boolean want) {
        due(call, got ? 1L : 0L, want ? 1L : 0L);
    }

    private void due(String call, long got, long want) {
        calls.add(call + " = " + want);
        Due.due(call, got, want);
        if (got != want) {
            System.out.println("after these calls: " + String.join("; ", calls));
        }
    }
}
