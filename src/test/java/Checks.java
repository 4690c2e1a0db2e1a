/** Compares answers with those that are due, prints the wrong ones and ends a test with exit code 1 if there was one. */
final class Checks {
    interface Call {
        void run();
    }

    private int made = 0;
    private int wrong = 0;

    void due(String call, long got, long want) {
        made++;
        if (got != want) {
            tell(call + " answered " + got + ", due is " + want);
        }
    }

    void due(String call, boolean got, boolean want) {
        made++;
        if (got != want) {
            tell(call + " answered " + got + ", due is " + want);
        }
    }

    void due(String call, double got, double want) {
        made++;
        if (Double.compare(got, want) != 0) {
            tell(call + " answered " + got + ", due is " + want);
        }
    }

    void due(String call, String got, String want) {
        made++;
        if (!got.equals(want)) {
            tell(call + " answered " + got + ", due is " + want);
        }
    }

    /** A call on which IndexOutOfBoundsException is due. */
    void noSuch(String call, Call made) {
        throwsDue(call, IndexOutOfBoundsException.class, made);
    }

    /** A call on which IllegalArgumentException is due. */
    void illegal(String call, Call made) {
        throwsDue(call, IllegalArgumentException.class, made);
    }

    /** A call on which IllegalStateException is due. */
    void full(String call, Call made) {
        throwsDue(call, IllegalStateException.class, made);
    }

    private void throwsDue(String call, Class<? extends RuntimeException> want, Call called) {
        made++;
        try {
            called.run();
            tell(call + " threw nothing, due is " + want.getSimpleName());
        } catch (RuntimeException e) {
            // The very class: the machine's ArrayIndexOutOfBoundsException is not what the document names.
            if (e.getClass() != want) {
                tell(call + " threw " + e.getClass().getSimpleName() + ", due is " + want.getSimpleName());
            }
        }
    }

    private void tell(String fault) {
        wrong++;
        System.out.println("  " + fault);
    }

    void end() {
        System.out.println("  " + made + " answers, " + wrong + " wrong");
        if (wrong != 0 || made == 0) {
            System.exit(1);
        }
    }
}
