/** Counts answers that are not the ones that are due, for a test's main method. */
final class Check {
    private int seen = 0;
    private int wrong = 0;

    void same(String call, long got, long want) {
        seen++;
        if (got != want) {
            wrong++;
            if (wrong <= 40) {
                System.out.println(call + " answered " + got + ", due is " + want);
            }
        }
    }

    void same(String call, boolean got, boolean want) {
        same(call, got ? 1 : 0, want ? 1 : 0);
    }

    void isTrue(String claim, boolean holds) {
        same(claim, holds, true);
    }

    int wrong() {
        return wrong;
    }

    void close() {
        System.out.println(wrong == 0 ? seen + " answers are as due" : wrong + " of " + seen + " answers are not as due");
        if (wrong != 0) {
            System.exit(1);
        }
    }
}
