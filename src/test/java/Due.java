/** Counts the answers that are not the ones that are due, and ends a test by them. */
final class Due {
    private final String test;
    private int wrong;

    Due(String test) {
        this.test = test;
    }

    void is(String what, long got, long want) {
        if (got != want) {
            wrong++;
            System.out.println(test + ": " + what + ": answered " + got + ", due is " + want);
        }
    }

    void end() {
        if (wrong != 0) {
            System.exit(1);
        }
    }
}
