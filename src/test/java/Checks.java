/** What all tests of the project share: answers are compared, and wrong ones are told and counted. */
final class Checks {
    private static final int MOST_TOLD = 40;

    private final String name;
    private int made = 0;
    private int wrong = 0;

    Checks(String name) {
        this.name = name;
    }

    void due(String what, long got, long want) {
        made++;
        if (got != want) {
            tell(what + " answered " + got + ", due is " + want);
        }
    }

    void holds(String what, boolean stands) {
        made++;
        if (!stands) {
            tell(what);
        }
    }

    boolean isClean() {
        return wrong == 0;
    }

    /** Ends the program: with 1, if anything was wrong or nothing was checked. */
    void end() {
        System.out.println(name + ": " + made + " checks, " + wrong + " wrong");
        if (wrong != 0 || made == 0) {
            System.exit(1);
        }
    }

    private void tell(String line) {
        wrong++;
        if (wrong <= MOST_TOLD) {
            System.out.println(name + ": " + line);
        }
    }
}
