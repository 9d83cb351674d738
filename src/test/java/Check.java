/** Counts what is not as due, prints it, and ends the test by it. */
final class Check {
    private final String test;
    private int looked;
    private int wrong;

    Check(String test) {
        this.test = test;
    }

    void same(String what, long got, long due) {
        looked++;
        if (got != due) {
            wrong++;
            if (wrong <= 40) {
                System.out.println(test + ": " + what + " answered " + got + ", due is " + due);
            }
        }
    }

    void same(String what, Object got, Object due) {
        looked++;
        if (!String.valueOf(got).equals(String.valueOf(due))) {
            wrong++;
            if (wrong <= 40) {
                System.out.println(test + ": " + what + " answered " + got + ", due is " + due);
            }
        }
    }

    boolean isAllAsDue() {
        return wrong == 0;
    }

    void end() {
        System.out.println(test + ": " + looked + " looked at, " + wrong + " not as due");
        if (wrong != 0 || looked == 0) {
            System.exit(1);
        }
    }
}
