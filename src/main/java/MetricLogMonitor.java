import java.util.ArrayList;

/**
 * Watches formulas about the past and the future over a log that grows, and says of each place of the log which values
 * satisfy a formula there as soon as nothing that may still come can change it.
 *
 * <p>A set of assignments is a long with a bit for each of the 64 assignments; a set of variables is an int with a bit
 * for each of the three variables.
 */
public final class MetricLogMonitor {
    public static final int REFUSED = -1;
    public static final int ALWAYS = -1;

    private static final int MOST_FORMULAS = 12;
    private static final int MOST_PLACES = 24;
    private static final int MOST_TIME = 1000000;
    private static final int RELATIONS = 3;
    private static final int VARIABLES = 3;
    private static final int VALUES = 4;
    private static final int ASSIGNMENTS = 64;
    private static final int FIRST_VALUE_TERM = 4;
    private static final long ALL_ASSIGNMENTS = -1L;

    /** For each variable the set of the assignments that give it the value 0. */
    private static final long[] ZERO_AT = {0x1111111111111111L, 0x000F000F000F000FL, 0x000000000000FFFFL};

    private final ArrayList<Formula> formulas;
    private final Log log;
    private boolean watching;

    public MetricLogMonitor() {
        formulas = new ArrayList<>();
        log = new Log();
        watching = false;
    }

    public int atom(int relation, int a, int b) {
        if (!mayMake() || !isRelation(relation) || !isTerm(a) || !isTerm(b)) {
            return REFUSED;
        }
        return add(new Atom(relation, a, b));
    }

    public int compare(boolean less, int a, int b) {
        if (!mayMake() || !isTerm(a) || !isTerm(b)) {
            return REFUSED;
        }
        return add(new Comparison(less, a, b));
    }

    public int not(int f) {
        Formula part = find(f);
        if (!mayMake() || part == null) {
            return REFUSED;
        }
        return add(new Not(part));
    }

    public int join(boolean both, int f, int g) {
        Formula first = find(f);
        Formula second = find(g);
        if (!mayMake() || first == null || second == null) {
            return REFUSED;
        }
        return add(new Join(both, first, second));
    }

    public int exists(int v, int f) {
        Formula part = find(f);
        if (!mayMake() || !isVariable(v) || part == null) {
            return REFUSED;
        }
        return add(new Exists(v, part));
    }

    public int previous(int lo, int hi, int f) {
        Formula part = find(f);
        if (!mayMake() || !isPastInterval(lo, hi) || part == null) {
            return REFUSED;
        }
        return add(new Previous(lo, hi, part));
    }

    public int since(int lo, int hi, int f, int g) {
        Formula first = find(f);
        Formula second = find(g);
        if (!mayMake() || !isPastInterval(lo, hi) || first == null || second == null) {
            return REFUSED;
        }
        return add(new Since(lo, hi, first, second));
    }

    public int until(int lo, int hi, int f, int g) {
        Formula first = find(f);
        Formula second = find(g);
        if (!mayMake() || !isInterval(lo, hi) || first == null || second == null) {
            return REFUSED;
        }
        return add(new Until(lo, hi, first, second));
    }

    public int free(int f) {
        Formula formula = find(f);
        return formula == null ? REFUSED : formula.freeVariables;
    }

    public int ranged(int f) {
        Formula formula = find(f);
        return formula == null ? REFUSED : formula.rangedVariables;
    }

    public boolean bounded(int f) {
        Formula formula = find(f);
        return formula != null && formula.isBounded();
    }

    // The log is empty whenever the monitor does not watch, so there is nothing to clear here.
    public boolean watch() {
        if (watching || formulas.isEmpty()) {
            return false;
        }
        watching = true;
        return true;
    }

    public boolean gather(int relation, int x, int y) {
        if (!watching || !isRelation(relation) || !isValue(x) || !isValue(y)) {
            return false;
        }
        return log.collect(pairBit(relation, x, y));
    }

    public int place(int time) {
        if (!watching || !log.accepts(time)) {
            return REFUSED;
        }
        log.append(time);
        // A formula's parts were made before it, so they are ahead of it in this order too.
        for (int f = 0; f < formulas.size(); f++) {
            formulas.get(f).advance(log);
        }
        return log.size - 1;
    }

    public void stop(boolean all) {
        watching = false;
        log.clear();
        for (int f = 0; f < formulas.size(); f++) {
            formulas.get(f).forget();
        }
        if (all) {
            formulas.clear();
        }
    }

    public int progress(int f) {
        Formula formula = find(f);
        return formula == null ? REFUSED : formula.decided;
    }

    public long satisfied(int f, int i) {
        Formula formula = find(f);
        return formula == null ? 0L : formula.setAt(i);
    }

    public int rows(int f, int i) {
        Formula formula = find(f);
        if (formula == null || !formula.isDecidedAt(i)) {
            return REFUSED;
        }
        long representatives = formula.setAt(i);
        for (int v = 0; v < VARIABLES; v++) {
            if ((formula.freeVariables & variableBit(v)) == 0) {
                representatives = fold(v, representatives);
            }
        }
        return Long.bitCount(representatives);
    }

    private boolean mayMake() {
        return !watching && formulas.size() < MOST_FORMULAS;
    }

    private int add(Formula formula) {
        formulas.add(formula);
        return formulas.size() - 1;
    }

    private Formula find(int f) {
        return f >= 0 && f < formulas.size() ? formulas.get(f) : null;
    }

    private static boolean isRelation(int relation) {
        return relation >= 0 && relation < RELATIONS;
    }

    private static boolean isVariable(int v) {
        return v >= 0 && v < VARIABLES;
    }

    private static boolean isValue(int x) {
        return x >= 0 && x < VALUES;
    }

    private static boolean isTerm(int term) {
        return isVariable(term) || isValueTerm(term);
    }

    private static boolean isValueTerm(int term) {
        return term >= FIRST_VALUE_TERM && term < FIRST_VALUE_TERM + VALUES;
    }

    private static boolean isTime(int time) {
        return time >= 0 && time <= MOST_TIME;
    }

    private static boolean isInterval(int lo, int hi) {
        return isTime(lo) && isTime(hi) && lo <= hi;
    }

    private static boolean isPastInterval(int lo, int hi) {
        return hi == ALWAYS ? isTime(lo) : isInterval(lo, hi);
    }

    private static boolean liesIn(int duration, int lo, int hi) {
        return lo <= duration && (hi == ALWAYS || duration <= hi);
    }

    private static int valueOf(int term, int assignment) {
        return isVariable(term) ? (assignment >> (2 * term)) & 3 : term - FIRST_VALUE_TERM;
    }

    private static int variableBit(int v) {
        return 1 << v;
    }

    private static int variablesAmong(int a, int b) {
        int variables = 0;
        if (isVariable(a)) {
            variables |= variableBit(a);
        }
        if (isVariable(b)) {
            variables |= variableBit(b);
        }
        return variables;
    }

    private static long pairBit(int relation, int x, int y) {
        return 1L << (16 * relation + 4 * x + y);
    }

    /** The assignments with the value 0 at v that belong to the set, or would with another value at v. */
    private static long fold(int v, long set) {
        int step = 1 << (2 * v);
        return (set | (set >>> step) | (set >>> (2 * step)) | (set >>> (3 * step))) & ZERO_AT[v];
    }

    /** All assignments that differ at most at v from one of a set in which all have the value 0 at v. */
    private static long unfold(int v, long folded) {
        int step = 1 << (2 * v);
        return folded | (folded << step) | (folded << (2 * step)) | (folded << (3 * step));
    }

    /** The places with their times and the pairs of all relations, a place's pairs being the bits of one long. */
    private static final class Log {
        final int[] times = new int[MOST_PLACES];
        final long[] pairs = new long[MOST_PLACES];
        long gathered;
        int size;

        boolean collect(long pair) {
            boolean isNew = (gathered & pair) == 0;
            gathered |= pair;
            return isNew;
        }

        boolean accepts(int time) {
            return isTime(time) && size < MOST_PLACES && (size == 0 || time >= times[size - 1]);
        }

        void append(int time) {
            times[size] = time;
            pairs[size] = gathered;
            size++;
            gathered = 0;
        }

        void clear() {
            size = 0;
            gathered = 0;
        }

        int duration(int from, int to) {
            return times[to] - times[from];
        }
    }

    /**
     * A formula and its sets at the places below its progress. Such a set can't change any more, so it is worked out
     * once, from the sets of the formula's parts, and kept.
     */
    private abstract static class Formula {
        final int freeVariables;
        final int rangedVariables;
        /** Whether each EXISTS v h that it is or is made of has v ranged in h. */
        final boolean existsRanged;
        /** The progress. */
        int decided;
        private final long[] sets = new long[MOST_PLACES];

        Formula(int freeVariables, int rangedVariables, boolean existsRanged) {
            this.freeVariables = freeVariables;
            this.rangedVariables = rangedVariables;
            this.existsRanged = existsRanged;
        }

        /** The progress over this log, when the parts have advanced over it already. */
        abstract int reach(Log log);

        /** The set at a place of the log that is below reach. */
        abstract long evaluate(Log log, int i);

        void advance(Log log) {
            int reached = Math.min(reach(log), MOST_PLACES);
            for (int i = decided; i < reached; i++) {
                sets[i] = evaluate(log, i);
            }
            decided = reached;
        }

        void forget() {
            decided = 0;
        }

        boolean isBounded() {
            return existsRanged && (freeVariables & ~rangedVariables) == 0;
        }

        boolean isDecidedAt(int i) {
            return i >= 0 && i < decided;
        }

        long setAt(int i) {
            return isDecidedAt(i) ? sets[i] : 0L;
        }
    }

    private static final class Atom extends Formula {
        private final int relation;
        private final int a;
        private final int b;

        Atom(int relation, int a, int b) {
            super(variablesAmong(a, b), variablesAmong(a, b), true);
            this.relation = relation;
            this.a = a;
            this.b = b;
        }

        int reach(Log log) {
            return log.size;
        }

        long evaluate(Log log, int i) {
            long set = 0;
            for (int n = 0; n < ASSIGNMENTS; n++) {
                if ((log.pairs[i] & pairBit(relation, valueOf(a, n), valueOf(b, n))) != 0) {
                    set |= 1L << n;
                }
            }
            return set;
        }
    }

    private static final class Comparison extends Formula {
        private final boolean less;
        private final int a;
        private final int b;

        Comparison(boolean less, int a, int b) {
            super(variablesAmong(a, b), rangedBy(less, a, b), true);
            this.less = less;
            this.a = a;
            this.b = b;
        }

        private static int rangedBy(boolean less, int a, int b) {
            return !less && isVariable(a) != isVariable(b) ? variablesAmong(a, b) : 0;
        }

        int reach(Log log) {
            return log.size;
        }

        long evaluate(Log log, int i) {
            long set = 0;
            for (int n = 0; n < ASSIGNMENTS; n++) {
                int x = valueOf(a, n);
                int y = valueOf(b, n);
                if (less ? x < y : x == y) {
                    set |= 1L << n;
                }
            }
            return set;
        }
    }

    private static final class Not extends Formula {
        private final Formula part;

        Not(Formula part) {
            super(part.freeVariables, 0, part.existsRanged);
            this.part = part;
        }

        int reach(Log log) {
            return part.decided;
        }

        long evaluate(Log log, int i) {
            return ~part.setAt(i);
        }
    }

    private static final class Join extends Formula {
        private final boolean both;
        private final Formula first;
        private final Formula second;

        Join(boolean both, Formula first, Formula second) {
            super(first.freeVariables | second.freeVariables, rangedBy(both, first, second),
                    first.existsRanged && second.existsRanged);
            this.both = both;
            this.first = first;
            this.second = second;
        }

        private static int rangedBy(boolean both, Formula first, Formula second) {
            return both
                    ? first.rangedVariables | second.rangedVariables
                    : first.rangedVariables & second.rangedVariables;
        }

        int reach(Log log) {
            return Math.min(first.decided, second.decided);
        }

        long evaluate(Log log, int i) {
            return both ? first.setAt(i) & second.setAt(i) : first.setAt(i) | second.setAt(i);
        }
    }

    private static final class Exists extends Formula {
        private final int v;
        private final Formula part;

        Exists(int v, Formula part) {
            super(part.freeVariables & ~variableBit(v), part.rangedVariables & ~variableBit(v),
                    part.existsRanged && (part.rangedVariables & variableBit(v)) != 0);
            this.v = v;
            this.part = part;
        }

        int reach(Log log) {
            return part.decided;
        }

        long evaluate(Log log, int i) {
            return unfold(v, fold(v, part.setAt(i)));
        }
    }

    private static final class Previous extends Formula {
        private final int lo;
        private final int hi;
        private final Formula part;

        Previous(int lo, int hi, Formula part) {
            super(part.freeVariables, part.rangedVariables, part.existsRanged);
            this.lo = lo;
            this.hi = hi;
            this.part = part;
        }

        int reach(Log log) {
            return Math.min(log.size, 1 + part.decided);
        }

        long evaluate(Log log, int i) {
            return i > 0 && liesIn(log.duration(i - 1, i), lo, hi) ? part.setAt(i - 1) : 0L;
        }
    }

    private static final class Since extends Formula {
        private final int lo;
        private final int hi;
        private final Formula first;
        private final Formula second;

        Since(int lo, int hi, Formula first, Formula second) {
            super(first.freeVariables | second.freeVariables, second.rangedVariables,
                    first.existsRanged && second.existsRanged);
            this.lo = lo;
            this.hi = hi;
            this.first = first;
            this.second = second;
        }

        int reach(Log log) {
            return Math.min(first.decided, second.decided);
        }

        long evaluate(Log log, int i) {
            long set = 0;
            long firstHeld = ALL_ASSIGNMENTS;
            for (int j = i; j >= 0; j--) {
                if (liesIn(log.duration(j, i), lo, hi)) {
                    set |= firstHeld & second.setAt(j);
                }
                firstHeld &= first.setAt(j);
            }
            return set;
        }
    }

    private static final class Until extends Formula {
        private final int lo;
        private final int hi;
        private final Formula first;
        private final Formula second;

        Until(int lo, int hi, Formula first, Formula second) {
            super(first.freeVariables | second.freeVariables, second.rangedVariables,
                    first.existsRanged && second.existsRanged);
            this.lo = lo;
            this.hi = hi;
            this.first = first;
            this.second = second;
        }

        // Times never fall, so of the places that may decide a place the last one decides it if any does.
        int reach(Log log) {
            int last = Math.min(Math.min(first.decided, second.decided), log.size - 1);
            int count = 0;
            for (int i = 0; i < last; i++) {
                if (log.duration(i, last) > hi) {
                    count++;
                }
            }
            return count;
        }

        // The place is decided, so the parts are known at every place whose duration does not go beyond hi.
        long evaluate(Log log, int i) {
            long set = 0;
            long firstHeld = ALL_ASSIGNMENTS;
            for (int j = i; j < log.size && log.duration(i, j) <= hi; j++) {
                if (log.duration(i, j) >= lo) {
                    set |= firstHeld & second.setAt(j);
                }
                firstHeld &= first.setAt(j);
            }
            return set;
        }
    }
}
