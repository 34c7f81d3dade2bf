/** Counts and prints the answers that are not as due. */
final class Checks {
    /** A call whose answer, or whose exception, is looked at. */
    interface Call {
        long answer();
    }

    private int wrong;
    private int done;

    void due(String call, long got, long want) {
        done++;
        if (got != want) {
            wrong++;
            System.out.println(call + " answered " + got + ", due is " + want);
        }
    }

    /** The very class counts: an exception of the machine is often one of a class below. */
    void dueThrow(String call, Class<? extends RuntimeException> want, Call made) {
        done++;
        String got = outcome(made);
        if (!got.equals("throws " + want.getName())) {
            wrong++;
            System.out.println(call + " answered " + got + ", due is throws " + want.getName());
        }
    }

    void dueOutcome(String call, String got, String want) {
        done++;
        if (!got.equals(want)) {
            wrong++;
            System.out.println(call + " answered " + got + ", due is " + want);
        }
    }

    static String outcome(Call made) {
        try {
            return Long.toString(made.answer());
        } catch (RuntimeException e) {
            return "throws " + e.getClass().getName();
        }
    }

    int done() {
        return done;
    }

    boolean anyWrong() {
        return wrong > 0;
    }

    void end() {
        System.out.println(done + " answers looked at, " + wrong + " not as due");
        if (wrong > 0) {
            System.exit(1);
        }
    }
}
