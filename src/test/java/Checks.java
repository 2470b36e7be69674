/** What the tests of the project share: they compare answers, and end with exit code 1 if one is wrong. */
final class Checks {
    private final String test;
    private int asked = 0;
    private int wrong = 0;

    Checks(String test) {
        this.test = test;
    }

    void due(String call, long got, long want) {
        asked++;
        if (got != want) {
            wrong++;
            System.out.println(test + ": " + call + " answered " + got + ", due is " + want);
        }
    }

    void holds(String what, boolean is) {
        asked++;
        if (!is) {
            wrong++;
            System.out.println(test + ": not so: " + what);
        }
    }

    boolean anyWrong() {
        return wrong > 0;
    }

    void close() {
        System.out.println(test + ": " + asked + " checks, " + wrong + " wrong");
        if (wrong > 0 || asked == 0) {
            System.exit(1);
        }
    }
}
