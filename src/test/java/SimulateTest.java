/** Promise 6: simulate. */
public final class SimulateTest {
    private static final int[] NOT_0_TO_7 = {Integer.MIN_VALUE, -1, 8, 9, Integer.MAX_VALUE};
    private static final int[] TOO_FAR =
            {Integer.MIN_VALUE, -1_000_001, 1_000_001, Integer.MAX_VALUE};
    private static final long FAILED = -9_000_000_000_000L;

    public static void main(String[] args) {
        Checks checks = new Checks();
        answersOfEachMode(checks);
        failures(checks);
        sumsAtTheirBounds(checks);
        asACallInEveryCase(checks);
        unknownKind(checks);
        unknownSubject(checks);
        unknownVerb(checks);
        argumentOutOfRange(checks);
        closedSubject(checks);
        orderOfRefusals(checks);
        notToldWithFullRows(checks);
        checks.end();
    }

    private static void simulates(OnScene scene, long want, int[] c) {
        String what = "simulate " + c[0] + " " + c[1] + " " + c[2] + " " + c[3];
        scene.answers(what, want, desk -> desk.simulate(c[0], c[1], c[2], c[3]));
        scene.answers(what + " twice", want, desk -> {
            desk.simulate(c[0], c[1], c[2], c[3]);
            return desk.simulate(c[0], c[1], c[2], c[3]);
        });
        scene.takes(what + " called", want, desk -> desk.call(c[0], c[1], c[2], c[3]));
    }

    private static void refuses(Checks checks, Class<? extends RuntimeException> why, int[] c) {
        String what = "simulate " + c[0] + " " + c[1] + " " + c[2] + " " + c[3];
        OnScene.filled(checks).refuses(what, why, desk -> desk.simulate(c[0], c[1], c[2], c[3]));
    }

    /** "SIMULATING tells what a call would answer .., without a turn, rows or changes." */
    private static void answersOfEachMode(Checks checks) {
        OnScene filled = OnScene.filled(checks);
        simulates(filled, 1, new int[] {1, 1, 1, 9});
        simulates(filled, -4, new int[] {1, 0, 2, 9});
        simulates(filled, -80, new int[] {1, 0, 3, 9});
        simulates(filled, -5, new int[] {1, 0, 5, 9});
        simulates(filled, 16, new int[] {1, 0, 6, 9});
        simulates(filled, 1, new int[] {1, 0, 7, 9});
    }

    /** "A failure": answered, not told. */
    private static void failures(Checks checks) {
        OnScene filled = OnScene.filled(checks);
        simulates(filled, FAILED - 4, new int[] {1, 0, 4, 9});
        simulates(filled, FAILED - 10, new int[] {1, 0, 5, 0});
        simulates(filled, FAILED - 11, new int[] {0, 0, 6, 9});
        simulates(filled, FAILED - 12, new int[] {0, 0, 7, 9});
        simulates(filled, FAILED - 12, new int[] {1, 1, 7, 9});
    }

    /** "of kind 9 when a sum would be above 1,000,000,000 or below its opposite". */
    private static void sumsAtTheirBounds(Checks checks) {
        OnScene high = new OnScene(checks, () -> new Scene().under(1, 0).make(0, -1, 1)
                .make(1, 0, 1).sum(0, 0, 999_999_999).verb(1, 6, 6, 0, 0));
        simulates(high, 1_000_000_000, new int[] {0, 0, 2, 1});
        simulates(high, FAILED - 9, new int[] {0, 0, 2, 2});
        simulates(high, 1_000_000_000, new int[] {1, 0, 6, 1});
        simulates(high, FAILED - 9, new int[] {1, 0, 6, 2});
        OnScene low = new OnScene(checks, () -> new Scene().under(1, 0).make(0, -1, 1)
                .make(1, 0, 1).sum(0, 0, -999_999_999).verb(1, 6, 6, 0, 0));
        simulates(low, -1_000_000_000, new int[] {0, 0, 2, -1});
        simulates(low, FAILED - 9, new int[] {0, 0, 2, -2});
        simulates(low, -1_000_000_000, new int[] {1, 0, 6, -1});
        simulates(low, FAILED - 9, new int[] {1, 0, 6, -2});
    }

    /** "(or throws as it)": every number of a call, at and beyond its bounds. */
    private static void asACallInEveryCase(Checks checks) {
        int[] kinds = {-1, 0, 1, 3, 7, 8};
        int[] subjects = {-1, 0, 2, 3};
        int[] arguments = {-1_000_001, -1_000_000, 0, 1_000_000, 1_000_001};
        for (int kind : kinds) {
            for (int subject : subjects) {
                for (int verb = -1; verb < 9; verb++) {
                    for (int argument : arguments) {
                        int v = verb;
                        ServiceDesk desk = Scene.filled().desk;
                        String simulated = Checks.answerOf(
                                () -> desk.simulate(kind, subject, v, argument));
                        String called = Checks.answerOf(
                                () -> desk.call(kind, subject, v, argument));
                        checks.same("as a call " + kind + " " + subject + " " + v + " " + argument,
                                simulated, called);
                    }
                }
            }
        }
    }

    /** "Likewise": no such kind. */
    private static void unknownKind(Checks checks) {
        OnScene filled = OnScene.filled(checks);
        for (int wrong : NOT_0_TO_7) {
            refuses(checks, Checks.UNKNOWN, new int[] {wrong, 0, 1, 0});
        }
        simulates(filled, -2, new int[] {0, 0, 1, 0});
        simulates(filled, -2, new int[] {7, 0, 1, 0});
    }

    /** "Likewise": no such subject. */
    private static void unknownSubject(Checks checks) {
        int[] wild = {Integer.MIN_VALUE, -1, 3, 29, 30, Integer.MAX_VALUE};
        for (int wrong : wild) {
            refuses(checks, Checks.UNKNOWN, new int[] {1, wrong, 1, 0});
        }
        OnScene full = new OnScene(checks, () -> new Scene().make(0, -1, 30).make(1, -1, 1)
                .verb(0, 1, 1, 3, -2).verb(1, 1, 1, 3, -2));
        simulates(full, 85, new int[] {0, 29, 1, 0});
        full.refuses("behind the 30th", Checks.UNKNOWN, desk -> desk.simulate(0, 30, 1, 0));
        full.refuses("before the first", Checks.UNKNOWN, desk -> desk.simulate(1, -1, 1, 0));
    }

    /** "Likewise": no such verb, or one without a mode. */
    private static void unknownVerb(Checks checks) {
        for (int wrong : NOT_0_TO_7) {
            refuses(checks, Checks.UNKNOWN, new int[] {1, 0, wrong, 0});
        }
        refuses(checks, Checks.UNKNOWN, new int[] {1, 0, 0, 0});
        OnScene ends = new OnScene(checks, () -> new Scene().make(1, -1, 1)
                .verb(1, 0, 1, 0, 40).verb(1, 7, 1, 0, 47));
        simulates(ends, 40, new int[] {1, 0, 0, 0});
        simulates(ends, 47, new int[] {1, 0, 7, 0});
    }

    /** "Likewise": the argument is -1,000,000 .. 1,000,000. */
    private static void argumentOutOfRange(Checks checks) {
        OnScene filled = OnScene.filled(checks);
        for (int verb = 1; verb < 8; verb++) {
            for (int wrong : TOO_FAR) {
                refuses(checks, Checks.RANGE, new int[] {1, 0, verb, wrong});
            }
        }
        simulates(filled, -1_000_000 - 89, new int[] {1, 0, 3, -1_000_000});
        simulates(filled, 1_000_000 - 89, new int[] {1, 0, 3, 1_000_000});
    }

    /** "Likewise": the subject is closed. */
    private static void closedSubject(Checks checks) {
        for (int verb = 1; verb < 8; verb++) {
            refuses(checks, Checks.STATE, new int[] {0, 2, verb, 1});
        }
    }

    /** "Refusals, in this order". */
    private static void orderOfRefusals(Checks checks) {
        for (int wrong : TOO_FAR) {
            refuses(checks, Checks.UNKNOWN, new int[] {8, 0, 1, wrong});
            refuses(checks, Checks.UNKNOWN, new int[] {1, 3, 1, wrong});
            refuses(checks, Checks.UNKNOWN, new int[] {1, 0, 8, wrong});
            refuses(checks, Checks.UNKNOWN, new int[] {1, 0, 0, wrong});
            refuses(checks, Checks.RANGE, new int[] {0, 2, 1, wrong});
        }
        refuses(checks, Checks.UNKNOWN, new int[] {0, 2, 0, 0});
        refuses(checks, Checks.UNKNOWN, new int[] {0, 2, 8, 0});
        refuses(checks, Checks.STATE, new int[] {0, 2, 4, 0});
    }

    /** Simulating goes on as before when no more rows are kept. */
    private static void notToldWithFullRows(Checks checks) {
        ServiceDesk desk = new ServiceDesk();
        desk.make(0, -1);
        desk.verb(0, 0, 4, 2, 0);
        for (int turn = 0; turn < 80; turn++) {
            desk.call(0, 0, 0, 0);
        }
        int book = desk.book();
        checks.due("a failure", FAILED - 3, () -> desk.simulate(0, 0, 0, 0));
        checks.throwing("a refusal", Checks.UNKNOWN, () -> desk.simulate(0, 1, 0, 0));
        checks.due("the book", book, desk::book);
        checks.due("turns", 80, () -> desk.count(0));
    }
}
