/** Counts and prints the answers of one test that are not as due. */
final class Check {
    /** A call whose answer does not matter, only what it throws. */
    interface Call {
        void make();
    }

    private final String test;
    private int made = 0;
    private int wrong = 0;

    Check(String test) {
        this.test = test;
    }

    void due(String what, long got, long want) {
        note(got == want, what, Long.toString(got), Long.toString(want));
    }

    void due(String what, double got, double want) {
        note(Double.compare(got, want) == 0, what, Double.toString(got), Double.toString(want));
    }

    void due(String what, boolean got, boolean want) {
        note(got == want, what, Boolean.toString(got), Boolean.toString(want));
    }

    void due(String what, String got, String want) {
        note(got.equals(want), what, got, want);
    }

    void badArgument(String what, Call call) {
        due(what, thrownBy(call), "IllegalArgumentException");
    }

    void badState(String what, Call call) {
        due(what, thrownBy(call), "IllegalStateException");
    }

    void badIndex(String what, Call call) {
        due(what, thrownBy(call), "IndexOutOfBoundsException");
    }

    /** The very class is compared: a class below the named one is an answer of the machine. */
    static String thrownBy(Call call) {
        try {
            call.make();
        } catch (RuntimeException e) {
            return e.getClass().getSimpleName();
        }
        return "nothing";
    }

    private void note(boolean right, String what, String got, String want) {
        made++;
        if (!right) {
            wrong++;
            System.out.println(test + ": " + what + " answered " + got + ", due is " + want);
        }
    }

    void end() {
        System.out.println(test + ": " + made + " checks, " + wrong + " wrong");
        if (wrong != 0 || made == 0) {
            System.exit(1);
        }
    }
}
