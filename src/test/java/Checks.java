/** Counts what a test finds wrong, prints it, and ends the test with the exit code that is due. */
final class Checks {
    interface Call {
        long answer();
    }

    interface Deed {
        void run();
    }

    static final Class<? extends RuntimeException> UNKNOWN = IllegalArgumentException.class;
    static final Class<? extends RuntimeException> RANGE = IndexOutOfBoundsException.class;
    static final Class<? extends RuntimeException> STATE = IllegalStateException.class;
    static final Class<? extends RuntimeException> NO_ROOM = UnsupportedOperationException.class;

    private int done;
    private int wrong;

    void due(String what, long want, Call call) {
        same(what, answerOf(call), Long.toString(want));
    }

    void goes(String what, Deed deed) {
        due(what, 0, () -> {
            deed.run();
            return 0;
        });
    }

    /** The class must be just this one: a class below it would come from the machine. */
    void throwing(String what, Class<? extends RuntimeException> want, Deed deed) {
        String got = answerOf(() -> {
            deed.run();
            return 0;
        });
        same(what, got, want.getName());
    }

    void same(String what, String got, String want) {
        done++;
        if (!got.equals(want)) {
            wrong++;
            System.out.println(what + ": got " + got + ", due is " + want);
        }
    }

    void end() {
        if (wrong == 0 && done > 0) {
            System.out.println(done + " checks are as due");
            return;
        }
        System.out.println(wrong + " of " + done + " checks are not as due");
        System.exit(1);
    }

    /** The answer, or the name of the exception's class. */
    static String answerOf(Call call) {
        try {
            return Long.toString(call.answer());
        } catch (RuntimeException e) {
            return e.getClass().getName();
        }
    }
}
