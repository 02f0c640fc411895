/** Counts what a test finds wrong, prints it, and ends the test with the exit code that is due. */
final class Checks {
    interface Call {
        long answer();
    }

    interface Deed {
        void run();
    }

    static final Class<? extends RuntimeException> UNKNOWN = IllegalArgumentException.class;
    static final Class<? extends RuntimeException> RANGE = IndexOutOfBoundsException.class;
    static final Class<? extends RuntimeException> STATE = IllegalStateException.class;
    static final Class<? extends RuntimeException> NO_ROOM = UnsupportedOperationException.class;

    private int done;
    private int wrong;

    void due(String what, long want, Call call) {
        String got;
        try {
            got = Long.toString(call.answer());
        } catch (RuntimeException e) {
            got = e.getClass().getName();
        }
        compare(what, got, Long.toString(want));
    }

    void goes(String what, Deed deed) {
        due(what, 0, () -> {
            deed.run();
            return 0;
        });
    }

    /** The class must be just this one: a class below it would come from the machine. */
    void throwing(String what, Class<? extends RuntimeException> want, Deed deed) {
        String got = "nothing thrown";
        try {
            deed.run();
        } catch (RuntimeException e) {
            got = e.getClass().getName();
        }
        compare(what, got, want.getName());
    }

    /** As throwing, and the refusal leaves the book and the counts as they were. */
    void refused(ServiceDesk desk, String what, Class<? extends RuntimeException> want, Deed deed) {
        String before = stateOf(desk);
        throwing(what, want, deed);
        compare(what.concat(" changes nothing"), stateOf(desk), before);
    }

    void end() {
        if (wrong == 0 && done > 0) {
            System.out.println(done + " checks are as due");
            return;
        }
        System.out.println(wrong + " of " + done + " checks are not as due");
        System.exit(1);
    }

    private void compare(String what, String got, String want) {
        done++;
        if (!got.equals(want)) {
            wrong++;
            System.out.println(what + ": got " + got + ", due is " + want);
        }
    }

    private static String stateOf(ServiceDesk desk) {
        return desk.book() + " " + desk.count(0) + " " + desk.count(1) + " " + desk.count(2)
                + " " + desk.count(3);
    }
}
