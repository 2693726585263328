/** Counts the answers of a test that are not as due. */
final class Check {
    private int wrong = 0;
    private int asked = 0;

    interface Call {
        long answer();
    }

    /** The call answers this; a boolean is told as 1 or 0. */
    void due(String what, long want, Call call) {
        asked++;
        try {
            long got = call.answer();
            if (got != want) {
                tell(what + " answered " + got + ", due is " + want);
            }
        } catch (RuntimeException e) {
            tell(what + " threw " + e + ", due is " + want);
        }
    }

    /** The call throws this very class, none below it: what the machine throws is often below. */
    void dueThrow(String what, Class<? extends RuntimeException> want, Call call) {
        asked++;
        try {
            tell(what + " answered " + call.answer() + ", due is " + want.getSimpleName());
        } catch (RuntimeException e) {
            if (e.getClass() != want) {
                tell(what + " threw " + e + ", due is " + want.getSimpleName());
            }
        }
    }

    void index(String what, Call call) {
        dueThrow(what, IndexOutOfBoundsException.class, call);
    }

    void argument(String what, Call call) {
        dueThrow(what, IllegalArgumentException.class, call);
    }

    void state(String what, Call call) {
        dueThrow(what, IllegalStateException.class, call);
    }

    void that(String what, boolean holds) {
        asked++;
        if (!holds) {
            tell(what);
        }
    }

    private void tell(String what) {
        wrong++;
        if (wrong <= 50) {
            System.out.println(what);
        }
    }

    void end() {
        System.out.println(asked + " answers, " + wrong + " not as due");
        if (wrong != 0) {
            System.exit(1);
        }
    }
}
