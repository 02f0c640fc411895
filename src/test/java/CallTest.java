/** Promise 5: call: its turns and refusals; what verbs answer is in ModeTest. */
public final class CallTest {
    private static final int[] NOT_0_TO_7 = {Integer.MIN_VALUE, -1, 8, 9, Integer.MAX_VALUE};
    private static final int[] TOO_FAR =
            {Integer.MIN_VALUE, -1_000_001, 1_000_001, Integer.MAX_VALUE};

    public static void main(String[] args) {
        Checks checks = new Checks();
        isATurn(checks);
        fineOnesAreNotTold(checks);
        unknownKind(checks);
        unknownSubject(checks);
        unknownSubjectOfAFullKind(checks);
        unknownVerb(checks);
        verbWithoutAMode(checks);
        argumentOutOfRange(checks);
        closedSubject(checks);
        unknownBeforeRange(checks);
        unknownBeforeState(checks);
        rangeBeforeState(checks);
        refusalBeforeFailure(checks);
        checks.end();
    }

    private static void unknown(OnScene scene, int[] call) {
        String what = call[0] + " " + call[1] + " " + call[2] + " " + call[3];
        scene.refusesAndTells(what, Checks.UNKNOWN, 13, call);
    }

    /** "A CALL .. is a TURN". */
    private static void isATurn(Checks checks) {
        int turns = Scene.filled().desk.count(0);
        for (int verb = 1; verb < 8; verb++) {
            int v = verb;
            OnScene.filled(checks).takes("verb " + v, desk -> desk.call(1, 0, v, 5), turns + 1,
                    desk -> desk.count(0));
        }
    }

    /** "one that is refused or fails is told by a ROW": others are not. */
    private static void fineOnesAreNotTold(Checks checks) {
        int rows = Scene.filled().desk.count(1);
        for (int verb = 1; verb < 8; verb++) {
            int v = verb;
            OnScene.filled(checks).takes("verb " + v, desk -> desk.call(1, 0, v, 5),
                    v == 4 ? rows + 1 : rows, desk -> desk.count(1));
        }
    }

    /** "Unknown: no such kind": told as it was called. */
    private static void unknownKind(Checks checks) {
        OnScene filled = OnScene.filled(checks);
        for (int wrong : NOT_0_TO_7) {
            unknown(filled, new int[] {wrong, 0, 1, 0});
        }
        filled.takes("kind 0", -2, desk -> desk.call(0, 0, 1, 0));
        filled.takes("kind 7", -2, desk -> desk.call(7, 0, 1, 0));
        unknown(filled, new int[] {3, 0, 1, 0});
    }

    /** "Unknown: no such .. subject": told as it was called. */
    private static void unknownSubject(Checks checks) {
        OnScene filled = OnScene.filled(checks);
        int[] wild = {Integer.MIN_VALUE, -1, 3, 4, 29, 30, Integer.MAX_VALUE};
        for (int wrong : wild) {
            unknown(filled, new int[] {0, wrong, 1, 0});
            unknown(filled, new int[] {1, wrong, 1, 0});
        }
        filled.takes("the first", -2, desk -> desk.call(1, 0, 1, 0));
        OnScene three = new OnScene(checks, () -> new Scene().make(0, -1, 3).verb(0, 1, 1, 3, -2));
        three.takes("the last", 4, desk -> desk.call(0, 2, 1, 0));
        unknown(three, new int[] {0, 3, 1, 0});
    }

    /** What lies behind the 30th is no subject, nor the next kind's first. */
    private static void unknownSubjectOfAFullKind(Checks checks) {
        OnScene full = new OnScene(checks, () -> new Scene().make(0, -1, 30).make(1, -1, 2)
                .verb(0, 1, 1, 3, -2).verb(1, 1, 1, 3, -2));
        full.takes("the 30th", 85, desk -> desk.call(0, 29, 1, 0));
        unknown(full, new int[] {0, 30, 1, 0});
        unknown(full, new int[] {1, -1, 1, 0});
    }

    /** "Unknown: no such .. verb (0 .. 7 ..)": told as it was called. */
    private static void unknownVerb(Checks checks) {
        for (int wrong : NOT_0_TO_7) {
            unknown(OnScene.filled(checks), new int[] {1, 0, wrong, 0});
        }
        OnScene ends = new OnScene(checks, () -> new Scene().make(1, -1, 1).allModes(0).allModes(2)
                .verb(1, 0, 1, 0, 40).verb(1, 7, 1, 0, 47));
        ends.takes("the first", 40, desk -> desk.call(1, 0, 0, 0));
        ends.takes("the last", 47, desk -> desk.call(1, 0, 7, 0));
        unknown(ends, new int[] {1, 0, -1, 0});
        unknown(ends, new int[] {1, 0, 8, 0});
    }

    /** "(.. with a mode)". */
    private static void verbWithoutAMode(Checks checks) {
        unknown(OnScene.filled(checks), new int[] {1, 0, 0, 0});
        OnScene taken = new OnScene(checks, () -> Scene.filled().verb(1, 1, 0, 5, 5));
        unknown(taken, new int[] {1, 0, 1, 0});
        OnScene another = new OnScene(checks, () -> new Scene().make(2, -1, 1).verb(1, 1, 1, 5, 5));
        unknown(another, new int[] {2, 0, 1, 0});
    }

    /** "range: the argument", -1,000,000 .. 1,000,000, whether the verb uses it or not. */
    private static void argumentOutOfRange(Checks checks) {
        OnScene filled = OnScene.filled(checks);
        for (int verb = 1; verb < 8; verb++) {
            for (int wrong : TOO_FAR) {
                filled.refusesAndTells("verb " + verb + " of " + wrong, Checks.RANGE, 14,
                        new int[] {1, 0, verb, wrong});
            }
            for (int last = -1_000_000; last <= 1_000_000; last += 2_000_000) {
                int v = verb;
                int argument = last;
                filled.takes("verb " + verb + " of " + last,
                        desk -> desk.call(1, 0, v, argument), v == 4 ? 3 : 2,
                        desk -> desk.count(1));
            }
        }
        filled.takes("the lowest", -1_000_000 - 89, desk -> desk.call(1, 0, 3, -1_000_000));
        filled.takes("the highest", 1_000_000 - 89, desk -> desk.call(1, 0, 3, 1_000_000));
    }

    /** "state: the subject is closed". */
    private static void closedSubject(Checks checks) {
        OnScene filled = OnScene.filled(checks);
        for (int verb = 1; verb < 8; verb++) {
            filled.refusesAndTells("verb " + verb, Checks.STATE, 15,
                    new int[] {0, 2, verb, 1});
        }
        filled.refusesAndTells("another kind's", Checks.STATE, 15, new int[] {1, 2, 1, 0});
        filled.takes("the open one before it", 1, desk -> desk.call(1, 1, 1, 0));
    }

    /** "Refusals, in this order". */
    private static void unknownBeforeRange(Checks checks) {
        OnScene filled = OnScene.filled(checks);
        for (int wrong : TOO_FAR) {
            unknown(filled, new int[] {8, 0, 1, wrong});
            unknown(filled, new int[] {1, 3, 1, wrong});
            unknown(filled, new int[] {1, 0, 8, wrong});
            unknown(filled, new int[] {1, 0, 0, wrong});
        }
    }

    /** "Refusals, in this order". */
    private static void unknownBeforeState(Checks checks) {
        OnScene filled = OnScene.filled(checks);
        unknown(filled, new int[] {0, 2, 8, 0});
        unknown(filled, new int[] {0, 2, -1, 0});
        unknown(filled, new int[] {0, 2, 0, 0});
        unknown(filled, new int[] {0, 2, 0, 1_000_001});
    }

    /** "Refusals, in this order". */
    private static void rangeBeforeState(Checks checks) {
        for (int wrong : TOO_FAR) {
            OnScene.filled(checks).refusesAndTells("closed, " + wrong, Checks.RANGE, 14,
                    new int[] {0, 2, 1, wrong});
        }
    }

    private static void refusalBeforeFailure(Checks checks) {
        OnScene filled = OnScene.filled(checks);
        filled.refusesAndTells("state before FAIL", Checks.STATE, 15,
                new int[] {0, 2, 4, 0});
        filled.refusesAndTells("state before a part by 0", Checks.STATE, 15,
                new int[] {0, 2, 5, 0});
        filled.refusesAndTells("range before FAIL", Checks.RANGE, 14,
                new int[] {0, 0, 4, 1_000_001});
        filled.refusesAndTells("range before open ones under it", Checks.RANGE, 14,
                new int[] {0, 0, 7, -1_000_001});
    }
}
