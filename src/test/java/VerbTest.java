/** Promise 4: verb. */
public final class VerbTest {
    private static final int[] NOT_0_TO_7 = {Integer.MIN_VALUE, -1, 8, 9, Integer.MAX_VALUE};
    private static final int[] TOO_FAR = {Integer.MIN_VALUE, -1001, 1001, Integer.MAX_VALUE};

    public static void main(String[] args) {
        Checks checks = new Checks();
        eachVerbOfEachKindIsItsOwn(checks);
        setAgain(checks);
        unknownKind(checks);
        unknownVerb(checks);
        unknownMode(checks);
        modeNone(checks);
        rangeOfA(checks);
        rangeOfB(checks);
        unknownBeforeRange(checks);
        neitherATurnNorInTheBook(checks);
        checks.end();
    }

    /** "A verb of a kind": 64 of them, the first and the last too. */
    private static void eachVerbOfEachKindIsItsOwn(Checks checks) {
        ServiceDesk desk = new ServiceDesk();
        for (int kind = 0; kind < 8; kind++) {
            desk.make(kind, -1);
            for (int verb = 0; verb < 8; verb++) {
                desk.verb(kind, verb, 1, 0, kind * 10 + verb);
            }
        }
        for (int kind = 0; kind < 8; kind++) {
            for (int verb = 0; verb < 8; verb++) {
                int k = kind;
                int v = verb;
                checks.due("verb " + k + " " + v, k * 10 + v, () -> desk.simulate(k, 0, v, 0));
            }
        }
    }

    private static void setAgain(Checks checks) {
        OnScene told = new OnScene(checks, () -> new Scene().make(0, -1, 2).verb(0, 0, 1, 5, 6));
        told.answers("tell", 11, desk -> desk.simulate(0, 1, 0, 10));
        told.takes("read instead", desk -> desk.verb(0, 0, 3, 5, 7), 17,
                desk -> desk.simulate(0, 1, 0, 10));
    }

    /** "Unknown: no such kind". */
    private static void unknownKind(Checks checks) {
        OnScene filled = OnScene.filled(checks);
        for (int wrong : NOT_0_TO_7) {
            filled.refuses("kind " + wrong, Checks.UNKNOWN, desk -> desk.verb(wrong, 1, 1, 1, 1));
        }
        for (int kind = 0; kind < 8; kind += 7) {
            int k = kind;
            filled.takes("kind " + k, desk -> desk.verb(k, 1, 1, 1, 44), 44,
                    desk -> desk.simulate(k, 0, 1, 0));
        }
    }

    /** "Unknown: no such .. verb": 0 .. 7. */
    private static void unknownVerb(Checks checks) {
        OnScene filled = OnScene.filled(checks);
        for (int wrong : NOT_0_TO_7) {
            filled.refuses("verb " + wrong, Checks.UNKNOWN, desk -> desk.verb(1, wrong, 1, 1, 1));
        }
        for (int verb = 0; verb < 8; verb += 7) {
            int v = verb;
            filled.takes("verb " + v, desk -> desk.verb(1, v, 1, 1, 44), 45,
                    desk -> desk.simulate(1, 1, v, 0));
        }
    }

    /** "Unknown: no such .. mode (0 .. 7)". */
    private static void unknownMode(Checks checks) {
        OnScene filled = OnScene.filled(checks);
        for (int wrong : NOT_0_TO_7) {
            filled.refuses("mode " + wrong, Checks.UNKNOWN, desk -> desk.verb(1, 1, wrong, 1, 1));
            filled.refuses("mode " + wrong + " of a verb without one", Checks.UNKNOWN,
                    desk -> desk.verb(1, 0, wrong, 1, 1));
        }
        long failed = -9_000_000_000_000L;
        long[] answers = {0, 108, 281, -2689, failed - 5, -1, failed - 11, failed - 12};
        OnScene bare = new OnScene(checks,
                () -> new Scene().under(1, 0).make(0, -1, 2).sum(0, 1, -27).make(1, 1, 1));
        for (int mode = 1; mode < 8; mode++) {
            int m = mode;
            bare.takes("mode " + m, desk -> desk.verb(0, 7, m, 100, 8), answers[m],
                    desk -> desk.simulate(0, 1, 7, 3));
        }
    }

    /** "0 none". */
    private static void modeNone(Checks checks) {
        OnScene filled = OnScene.filled(checks);
        ServiceDesk desk = Scene.filled().desk;
        checks.goes("mode 0", () -> desk.verb(1, 1, 0, 1, 1));
        checks.throwing("has no mode any more", Checks.UNKNOWN, () -> desk.simulate(1, 1, 1, 0));
        checks.due("the next verb has", 25, () -> desk.simulate(1, 1, 2, 9));
        filled.answers("before it had one", 1, d -> d.simulate(1, 1, 1, 0));
    }

    /** "range: a", which is -1,000 .. 1,000. */
    private static void rangeOfA(Checks checks) {
        OnScene filled = OnScene.filled(checks);
        for (int wrong : TOO_FAR) {
            for (int mode = 0; mode < 8; mode++) {
                int m = mode;
                filled.refuses("a " + wrong + " of mode " + m, Checks.RANGE,
                        desk -> desk.verb(1, 1, m, wrong, 0));
            }
        }
        filled.takes("lowest", desk -> desk.verb(1, 1, 1, -1000, 0), -1000,
                desk -> desk.simulate(1, 1, 1, 0));
        filled.takes("highest", desk -> desk.verb(1, 1, 1, 1000, 0), 1000,
                desk -> desk.simulate(1, 1, 1, 0));
    }

    /** "range: .. b", which is -1,000 .. 1,000. */
    private static void rangeOfB(Checks checks) {
        OnScene filled = OnScene.filled(checks);
        for (int wrong : TOO_FAR) {
            for (int mode = 0; mode < 8; mode++) {
                int m = mode;
                filled.refuses("b " + wrong + " of mode " + m, Checks.RANGE,
                        desk -> desk.verb(1, 1, m, 0, wrong));
            }
        }
        filled.takes("lowest", desk -> desk.verb(1, 1, 1, 0, -1000), -1000,
                desk -> desk.simulate(1, 1, 1, 0));
        filled.takes("highest", desk -> desk.verb(1, 1, 1, 0, 1000), 1000,
                desk -> desk.simulate(1, 1, 1, 0));
    }

    /** "Refusals, in this order". */
    private static void unknownBeforeRange(Checks checks) {
        OnScene filled = OnScene.filled(checks);
        for (int wrong : TOO_FAR) {
            filled.refuses("kind, a", Checks.UNKNOWN, desk -> desk.verb(8, 1, 1, wrong, 0));
            filled.refuses("kind, b", Checks.UNKNOWN, desk -> desk.verb(-1, 1, 1, 0, wrong));
            filled.refuses("verb, a", Checks.UNKNOWN, desk -> desk.verb(1, 8, 1, wrong, 0));
            filled.refuses("verb, b", Checks.UNKNOWN, desk -> desk.verb(1, -1, 1, 0, wrong));
            filled.refuses("mode, a", Checks.UNKNOWN, desk -> desk.verb(1, 1, 8, wrong, 0));
            filled.refuses("mode, b", Checks.UNKNOWN, desk -> desk.verb(1, 1, -1, 0, wrong));
        }
    }

    private static void neitherATurnNorInTheBook(Checks checks) {
        OnScene filled = OnScene.filled(checks);
        int book = Scene.filled().desk.book();
        int turns = Scene.filled().desk.count(0);
        filled.takes("book", desk -> desk.verb(3, 3, 3, 3, 3), book, ServiceDesk::book);
        filled.takes("turns", desk -> desk.verb(3, 3, 3, 3, 3), turns, desk -> desk.count(0));
    }
}
