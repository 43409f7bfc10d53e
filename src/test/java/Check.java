/** Counts answers that are due, and prints those that are not. */
final class Check {
    private int right = 0;
    private int wrong = 0;
    private String part = "";

    void part(String name) {
        part = name;
    }

    void due(String call, int got, int want) {
        if (got == want) {
            right++;
        } else {
            wrong++;
            System.out.println(part + ": " + call + " answered " + got + ", due is " + want);
        }
    }

    void holds(String what, boolean truth) {
        due(what, truth ? 1 : 0, 1);
    }

    int wrong() {
        return wrong;
    }

    void end() {
        System.out.println(right + " answers as due, " + wrong + " not");
        if (wrong != 0) {
            System.exit(1);
        }
    }
}
