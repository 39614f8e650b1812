/** Counts the answers that are not as due, and ends the program with 1 if there are any. */
final class Check {
    private final String title;
    private int asked = 0;
    private int wrong = 0;

    Check(String title) {
        this.title = title;
    }

    void due(String what, long got, long want) {
        asked++;
        if (got != want) {
            wrong++;
            System.out.println(title + ": " + what + " answered " + got + ", due is " + want);
        }
    }

    void holds(String what, boolean truth) {
        asked++;
        if (!truth) {
            wrong++;
            System.out.println(title + ": " + what + " does not hold");
        }
    }

    boolean failed() {
        return wrong > 0;
    }

    void end() {
        System.out.println(title + ": " + asked + " checks, " + wrong + " wrong");
        if (wrong > 0) {
            System.exit(1);
        }
    }
}
