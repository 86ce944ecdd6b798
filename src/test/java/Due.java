/** Counts the answers that are not as due, and prints each of them. */
final class Due {
    private int asked;
    private int wrong;

    void is(String call, long got, long want) {
        asked++;
        if (got != want) {
            wrong++;
            System.out.println(call + " answered " + got + ", due is " + want);
        }
    }

    /** Answers and the fault that fault() tells behind it. */
    void is(ColdOaths x, String call, long got, long want, int fault) {
        is(call, got, want);
        is(call + ", then fault()", x.fault(), fault);
    }

    boolean allAsDue() {
        return wrong == 0;
    }

    void end() {
        System.out.println(asked + " answers, " + wrong + " of them not as due");
        if (wrong != 0) {
            System.exit(1);
        }
    }
}
