/** Compares answers with those that are due, and counts the wrong ones. */
final class Check {
    static final Class<?> INDEX = IndexOutOfBoundsException.class;
    static final Class<?> ARGUMENT = IllegalArgumentException.class;
    static final Class<?> STATE = IllegalStateException.class;

    private int wrong;

    void same(String call, long got, long due) {
        if (got != due) {
            tell(call + " answered " + got + ", due is " + due);
        }
    }

    void same(String call, boolean got, boolean due) {
        if (got != due) {
            tell(call + " answered " + got + ", due is " + due);
        }
    }

    void same(String call, double got, double due) {
        if (Double.compare(got, due) != 0) {
            tell(call + " answered " + got + ", due is " + due);
        }
    }

    /**
     * The very class counts, and the place: what the machine or the library throws by itself is of a class below the
     * one that is due, or it is thrown outside the class.
     */
    void fails(String call, TavernDice ledger, Class<?> due, Runnable run) {
        long before = ledger.digest();
        RuntimeException thrown = thrownBy(run);
        Class<?> got = thrown == null ? null : thrown.getClass();
        if (got != due) {
            tell(call + " threw " + got + ", due is " + due);
        } else if (!thrown.getStackTrace()[0].getClassName().equals("TavernDice")) {
            tell(call + " threw by itself, not by a throw of the class");
        }
        if (ledger.digest() != before) {
            tell(call + " threw and changed the ledger");
        }
    }

    private static RuntimeException thrownBy(Runnable run) {
        try {
            run.run();
        } catch (RuntimeException e) {
            return e;
        }
        return null;
    }

    void tell(String fault) {
        wrong++;
        System.out.println(fault);
    }

    int wrong() {
        return wrong;
    }

    void end() {
        if (wrong != 0) {
            System.out.println(wrong + " answers are not as due");
            System.exit(1);
        }
    }
}
