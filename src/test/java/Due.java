/** Compares answers with those that are due, tells the wrong ones, and ends a test. */
final class Due {
    private int compared;
    private int wrong;

    void is(String call, long got, long want) {
        compared++;
        if (got != want) {
            wrong++;
            System.out.println(call + " answered " + got + ", due is " + want);
        }
    }

    int wrong() {
        return wrong;
    }

    void finish() {
        System.out.println(compared + " answers, " + wrong + " wrong");
        if (wrong != 0 || compared == 0) {
            System.exit(1);
        }
    }
}
