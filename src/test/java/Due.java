import java.util.List;

/** Compares answers with those that are due, tells the wrong ones, and ends a test. */
final class Due {
    private int compared;
    private int wrong;

    void is(String call, long got, long want) {
        compared++;
        if (got != want) {
            wrong++;
            System.out.println(call + " answered " + got + ", due is " + want);
        }
    }

    /** For rows of calls with their answers: the first one that is not as due is told. */
    void same(String of, List<String> got, List<String> want) {
        compared++;
        for (int i = 0; i < Math.max(got.size(), want.size()); i++) {
            String one = i < got.size() ? got.get(i) : "nothing";
            String other = i < want.size() ? want.get(i) : "nothing";
            if (!one.equals(other)) {
                wrong++;
                System.out.println(of + ": " + one + ", due is " + other);
                return;
            }
        }
    }

    int wrong() {
        return wrong;
    }

    void finish() {
        System.out.println(compared + " answers, " + wrong + " wrong");
        if (wrong != 0 || compared == 0) {
            System.exit(1);
        }
    }
}
