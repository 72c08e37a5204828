/** Counts the answers that are not as due, and tells them. */
final class Checks {
    private final String test;
    private String about = "";
    private int made;
    private int wrong;

    Checks(String test) {
        this.test = test;
    }

    void about(String what) {
        about = what;
    }

    void due(String call, long got, long want) {
        made++;
        if (got != want) {
            wrong++;
            System.out.println(about + ": " + call + " answered " + got + ", due is " + want);
        }
    }

    void holds(String what, boolean isSo) {
        made++;
        if (!isSo) {
            wrong++;
            System.out.println(about + ": not so: " + what);
        }
    }

    /** Tells how many checks were made and ends with code 1 if one was wrong. */
    void end() {
        System.out.println(test + ": " + made + " checks, " + wrong + " wrong");
        if (wrong != 0) {
            System.exit(1);
        }
    }
}
