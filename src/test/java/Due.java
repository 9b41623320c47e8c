/** Compares answers with the ones that are due, prints those that differ, and ends the test with exit code 1 then. */
final class Due {
    private static int wrong = 0;
    private static int compared = 0;

    private Due() {
    }

    static void due(String call, long got, long want) {
        compared++;
        if (got != want) {
            wrong++;
            System.out.println(call + " answered " + got + ", due is " + want);
        }
    }

    static void due(String call, boolean got, boolean want) {
        due(call, got ? 1L : 0L, want ? 1L : 0L);
    }

    static void refused(String call, int got) {
        due(call, got, MetricLogMonitor.REFUSED);
    }

    static void same(String what, String got, String want) {
        compared++;
        if (!got.equals(want)) {
            wrong++;
            System.out.println(what + ": " + firstDifference(got.split("\n"), want.split("\n")));
        }
    }

    private static String firstDifference(String[] got, String[] want) {
        for (int n = 0; n < Math.min(got.length, want.length); n++) {
            if (!got[n].equals(want[n])) {
                return got[n] + ", due is " + want[n];
            }
        }
        return got.length + " lines, due are " + want.length;
    }

    static int wrongSoFar() {
        return wrong;
    }

    static void end() {
        System.out.println(wrong == 0
                ? "all " + compared + " answers are as due"
                : wrong + " of " + compared + " answers are not as due");
        if (wrong != 0) {
            System.exit(1);
        }
    }
}
