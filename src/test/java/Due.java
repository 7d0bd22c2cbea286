/** Counts answers that are due and prints those that are not as due. */
final class Due {
    private final String name;
    private int asked = 0;
    private int wrong = 0;

    Due(String name) {
        this.name = name;
    }

    void is(String what, long got, long want) {
        asked++;
        if (got != want) {
            wrong++;
            System.out.println(name + ": " + what + " answered " + got + ", due is " + want);
        }
    }

    void is(String what, boolean got, boolean want) {
        is(what, got ? 1 : 0, want ? 1 : 0);
    }

    /** A call that is well: its answer, and STATUS 0. */
    void gives(EndTeller x, String call, long got, long want) {
        is(call, got, want);
        is(call + ", status()", x.status(), 0);
    }

    void holds(EndTeller x, String call, boolean got) {
        gives(x, call, got ? 1 : 0, 1);
    }

    /** A call that is refused: NONE, and its STATUS. */
    void refuses(EndTeller x, String call, long got, int status) {
        is(call, got, -1);
        is(call + ", status()", x.status(), status);
    }

    void refuses(EndTeller x, String call, boolean got, int status) {
        is(call, got, false);
        is(call + ", status()", x.status(), status);
    }

    /** A call that tells a FRACTION. */
    void tells(EndTeller x, String call, boolean got, long upper, long lower) {
        holds(x, call, got);
        fraction(x, call, upper, lower);
    }

    void fraction(EndTeller x, String call, long upper, long lower) {
        is(call + ", upper()", x.upper(), upper);
        is(call + ", lower()", x.lower(), lower);
    }

    void close() {
        System.out.println(name + ": " + asked + " answers, " + wrong + " not as due");
        if (wrong != 0) {
            System.exit(1);
        }
    }
}
