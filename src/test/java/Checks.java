/** Compares answers with the ones that are due, and remembers whether one was wrong. */
final class Checks {
    private int wrong = 0;
    private int made = 0;

    void due(String call, long got, long want) {
        count(got == want, call, String.valueOf(got), String.valueOf(want));
    }

    void same(String what, String got, String want) {
        count(got.equals(want), what, got, want);
    }

    void holds(String what, boolean holds) {
        count(holds, what, String.valueOf(holds), "true");
    }

    private void count(boolean right, String what, String got, String want) {
        made++;
        if (!right) {
            wrong++;
            System.out.println(what + " answered " + got + ", due is " + want);
        }
    }

    int made() {
        return made;
    }

    boolean anyWrong() {
        return wrong != 0;
    }

    void end(String test) {
        System.out.println(test + ": " + made + " answers, " + wrong + " of them not as due");
        if (wrong != 0) {
            System.exit(1);
        }
    }
}
