/** Compares answers with the due ones, prints the wrong ones, and ends the test with its exit code. */
final class Checks {
    private int made = 0;
    private int wrong = 0;

    void same(String call, String got, String due) {
        made++;
        if (!got.equals(due)) {
            wrong++;
            System.out.println(call + " answered " + got + ", due is " + due);
        }
    }

    void yes(String what, boolean holds) {
        made++;
        if (!holds) {
            wrong++;
            System.out.println(what + " does not hold");
        }
    }

    int wrong() {
        return wrong;
    }

    void end() {
        System.out.println(made + " checks, " + wrong + " wrong");
        if (wrong != 0 || made == 0) {
            System.exit(1);
        }
    }
}
