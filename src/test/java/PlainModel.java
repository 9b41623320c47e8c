import java.util.ArrayList;
import java.util.HashSet;
import java.util.List;
import java.util.Set;
import java.util.TreeSet;

/** The document's words taken one by one, without care for speed: what the monitor's answers are compared with. */
final class PlainModel {
    private enum Kind { ATOM, EQUAL, LESS, NOT, AND, OR, EXISTS, PREVIOUS, SINCE, UNTIL }

    /** The numbers a and b are terms or formulas, by the kind; number is a relation or a variable. */
    private record Formula(Kind kind, int number, int a, int b, int lo, int hi) { }

    private record Pair(int relation, int x, int y) { }

    private record Place(int time, Set<Pair> pairs) { }

    private final List<Formula> formulas = new ArrayList<>();
    private final List<Place> log = new ArrayList<>();
    private Set<Pair> gathered = new HashSet<>();
    private boolean watching = false;
    /** What satisfies was asked before of this log: only to keep formulas within formulas from taking for ever. */
    private Boolean[][][] known = new Boolean[12][24][64];

    int atom(int relation, int a, int b) {
        return make(isFrom0To(2, relation) && isTerm(a) && isTerm(b), new Formula(Kind.ATOM, relation, a, b, 0, 0));
    }

    int compare(boolean less, int a, int b) {
        return make(isTerm(a) && isTerm(b), new Formula(less ? Kind.LESS : Kind.EQUAL, 0, a, b, 0, 0));
    }

    int not(int f) {
        return make(has(f), new Formula(Kind.NOT, 0, f, f, 0, 0));
    }

    int join(boolean both, int f, int g) {
        return make(has(f) && has(g), new Formula(both ? Kind.AND : Kind.OR, 0, f, g, 0, 0));
    }

    int exists(int v, int f) {
        return make(isFrom0To(2, v) && has(f), new Formula(Kind.EXISTS, v, f, f, 0, 0));
    }

    int previous(int lo, int hi, int f) {
        return make(isPast(lo, hi) && has(f), new Formula(Kind.PREVIOUS, 0, f, f, lo, hi));
    }

    int since(int lo, int hi, int f, int g) {
        return make(isPast(lo, hi) && has(f) && has(g), new Formula(Kind.SINCE, 0, f, g, lo, hi));
    }

    int until(int lo, int hi, int f, int g) {
        return make(isInterval(lo, hi) && has(f) && has(g), new Formula(Kind.UNTIL, 0, f, g, lo, hi));
    }

    int free(int f) {
        return has(f) ? asNumber(freeOf(f)) : -1;
    }

    int ranged(int f) {
        return has(f) ? asNumber(rangedOf(f)) : -1;
    }

    boolean bounded(int f) {
        return has(f) && rangedOf(f).containsAll(freeOf(f)) && everyExistsIsRanged(f);
    }

    boolean watch() {
        if (watching || formulas.isEmpty()) {
            return false;
        }
        watching = true;
        return true;
    }

    boolean gather(int relation, int x, int y) {
        if (!watching || !isFrom0To(2, relation) || !isFrom0To(3, x) || !isFrom0To(3, y)) {
            return false;
        }
        return gathered.add(new Pair(relation, x, y));
    }

    int place(int time) {
        if (!watching || !isFrom0To(1000000, time) || log.size() == 24) {
            return -1;
        }
        if (!log.isEmpty() && time < log.get(log.size() - 1).time()) {
            return -1;
        }
        log.add(new Place(time, gathered));
        gathered = new HashSet<>();
        known = new Boolean[12][24][64];
        return log.size() - 1;
    }

    void stop(boolean all) {
        watching = false;
        log.clear();
        gathered = new HashSet<>();
        known = new Boolean[12][24][64];
        if (all) {
            formulas.clear();
        }
    }

    int progress(int f) {
        return has(f) ? progressOf(f) : -1;
    }

    long satisfied(int f, int i) {
        long set = 0;
        if (has(f) && i >= 0 && i < progressOf(f)) {
            for (int n = 0; n < 64; n++) {
                if (satisfies(n, f, i)) {
                    set |= 1L << n;
                }
            }
        }
        return set;
    }

    int rows(int f, int i) {
        if (!has(f) || i < 0 || i >= progressOf(f)) {
            return -1;
        }
        Set<List<Integer>> rows = new HashSet<>();
        for (int n = 0; n < 64; n++) {
            if (satisfies(n, f, i)) {
                List<Integer> row = new ArrayList<>();
                for (int v : freeOf(f)) {
                    row.add(value(v, n));
                }
                rows.add(row);
            }
        }
        return rows.size();
    }

    int places() {
        return log.size();
    }

    int formulas() {
        return formulas.size();
    }

    boolean watches() {
        return watching;
    }

    private int make(boolean allowed, Formula formula) {
        if (watching || formulas.size() == 12 || !allowed) {
            return -1;
        }
        formulas.add(formula);
        return formulas.size() - 1;
    }

    private boolean has(int f) {
        return f >= 0 && f < formulas.size();
    }

    private static boolean isFrom0To(int most, int number) {
        return 0 <= number && number <= most;
    }

    private static boolean isTerm(int term) {
        return term != 3 && isFrom0To(7, term);
    }

    private static boolean isInterval(int lo, int hi) {
        return 0 <= lo && lo <= hi && hi <= 1000000;
    }

    private static boolean isPast(int lo, int hi) {
        return isInterval(lo, hi) || hi == -1 && isFrom0To(1000000, lo);
    }

    private static int value(int term, int n) {
        int[] values = {n % 4, n / 4 % 4, n / 16};
        return term < 3 ? values[term] : term - 4;
    }

    private static int asNumber(Set<Integer> variables) {
        int sum = 0;
        for (int v : variables) {
            sum += (int) Math.pow(2, v);
        }
        return sum;
    }

    private static Set<Integer> variables(Formula formula) {
        Set<Integer> variables = new TreeSet<>(List.of(0, 1, 2));
        variables.removeIf(v -> v != formula.a() && v != formula.b());
        return variables;
    }

    private Set<Integer> freeOf(int f) {
        Formula formula = formulas.get(f);
        switch (formula.kind()) {
            case ATOM: case EQUAL: case LESS:
                return variables(formula);
            default:
                Set<Integer> free = new TreeSet<>(freeOf(formula.a()));
                free.addAll(freeOf(formula.b()));
                if (formula.kind() == Kind.EXISTS) {
                    free.remove(formula.number());
                }
                return free;
        }
    }

    private Set<Integer> rangedOf(int f) {
        Formula formula = formulas.get(f);
        Set<Integer> ranged = new TreeSet<>();
        switch (formula.kind()) {
            case ATOM:
                ranged.addAll(variables(formula));
                break;
            case EQUAL:
                if (formula.a() < 3 && formula.b() > 3 || formula.a() > 3 && formula.b() < 3) {
                    ranged.addAll(variables(formula));
                }
                break;
            case LESS: case NOT:
                break;
            case AND:
                ranged.addAll(rangedOf(formula.a()));
                ranged.addAll(rangedOf(formula.b()));
                break;
            case OR:
                ranged.addAll(rangedOf(formula.a()));
                ranged.retainAll(rangedOf(formula.b()));
                break;
            case EXISTS:
                ranged.addAll(rangedOf(formula.a()));
                ranged.remove(formula.number());
                break;
            default:
                ranged.addAll(rangedOf(formula.b()));
        }
        return ranged;
    }

    private boolean everyExistsIsRanged(int f) {
        Formula formula = formulas.get(f);
        switch (formula.kind()) {
            case ATOM: case EQUAL: case LESS:
                return true;
            case EXISTS:
                return rangedOf(formula.a()).contains(formula.number()) && everyExistsIsRanged(formula.a());
            default:
                return everyExistsIsRanged(formula.a()) && everyExistsIsRanged(formula.b());
        }
    }

    private int progressOf(int f) {
        Formula formula = formulas.get(f);
        int n = log.size();
        switch (formula.kind()) {
            case ATOM: case EQUAL: case LESS:
                return n;
            case PREVIOUS:
                return Math.min(n, 1 + progressOf(formula.a()));
            case UNTIL:
                int m = Math.min(progressOf(formula.a()), progressOf(formula.b()));
                int decided = 0;
                for (int i = 0; i < n; i++) {
                    decided += isDecided(i, m, formula.hi()) ? 1 : 0;
                }
                return decided;
            default:
                return Math.min(progressOf(formula.a()), progressOf(formula.b()));
        }
    }

    private boolean isDecided(int i, int m, int hi) {
        for (int k = 0; k <= m && k < log.size(); k++) {
            if (log.get(k).time() > log.get(i).time() + hi) {
                return true;
            }
        }
        return false;
    }

    private boolean satisfies(int n, int f, int i) {
        if (known[f][i][n] == null) {
            known[f][i][n] = work(n, formulas.get(f), i);
        }
        return known[f][i][n];
    }

    private boolean work(int n, Formula formula, int i) {
        int a = formula.a();
        int b = formula.b();
        switch (formula.kind()) {
            case ATOM:
                return log.get(i).pairs().contains(new Pair(formula.number(), value(a, n), value(b, n)));
            case EQUAL:
                return value(a, n) == value(b, n);
            case LESS:
                return value(a, n) < value(b, n);
            case NOT:
                return !satisfies(n, a, i);
            case AND:
                return satisfies(n, a, i) && satisfies(n, b, i);
            case OR:
                return satisfies(n, a, i) || satisfies(n, b, i);
            case EXISTS:
                return someSatisfies(n, formula.number(), a, i);
            case PREVIOUS:
                return i > 0 && lies(i - 1, i, formula) && satisfies(n, a, i - 1);
            case SINCE:
                return since(n, formula, i);
            default:
                return until(n, formula, i);
        }
    }

    private boolean someSatisfies(int n, int v, int f, int i) {
        for (int other = 0; other < 64; other++) {
            boolean differsElsewhere = false;
            for (int w = 0; w < 3; w++) {
                differsElsewhere |= w != v && value(w, n) != value(w, other);
            }
            if (!differsElsewhere && satisfies(other, f, i)) {
                return true;
            }
        }
        return false;
    }

    private boolean lies(int from, int to, Formula formula) {
        int duration = log.get(to).time() - log.get(from).time();
        return formula.hi() == -1
                ? formula.lo() <= duration
                : formula.lo() <= duration && duration <= formula.hi();
    }

    private boolean since(int n, Formula formula, int i) {
        for (int j = 0; j <= i; j++) {
            boolean holds = lies(j, i, formula) && satisfies(n, formula.b(), j);
            for (int k = j + 1; k <= i; k++) {
                holds = holds && satisfies(n, formula.a(), k);
            }
            if (holds) {
                return true;
            }
        }
        return false;
    }

    private boolean until(int n, Formula formula, int i) {
        for (int j = i; j < log.size(); j++) {
            boolean holds = lies(i, j, formula) && satisfies(n, formula.b(), j);
            for (int k = i; k < j; k++) {
                holds = holds && satisfies(n, formula.a(), k);
            }
            if (holds) {
                return true;
            }
        }
        return false;
    }
}
