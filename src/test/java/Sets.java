import java.util.function.Predicate;

/** Sets of assignments, told by what holds of the values of the three variables. */
final class Sets {
    static final long ALL = -1L;

    private Sets() {
    }

    static long where(Predicate<int[]> holds) {
        long set = 0;
        for (int n = 0; n < 64; n++) {
            if (holds.test(new int[] {n % 4, n / 4 % 4, n / 16})) {
                set |= 1L << n;
            }
        }
        return set;
    }

    /** The assignments that give a variable one of some values. */
    static long at(int variable, int... values) {
        return where(x -> {
            for (int value : values) {
                if (x[variable] == value) {
                    return true;
                }
            }
            return false;
        });
    }
}
