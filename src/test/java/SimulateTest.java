/** Promise 6: simulate. */
public final class SimulateTest {
    private static final long FAILED = -9_000_000_000_000L;

    public static void main(String[] args) {
        Checks checks = new Checks();
        answersAsACallAndChangesNothing(checks);
        throwsAsACall(checks);
        checks.end();
    }

    private static ServiceDesk filledDesk() {
        ServiceDesk desk = new ServiceDesk();
        desk.under(1, 0);
        desk.make(0, -1);
        desk.make(0, -1);
        desk.make(0, -1);
        desk.make(1, 0);
        desk.make(1, 1);
        for (int mode = 1; mode < 8; mode++) {
            desk.verb(0, mode, mode, 1000, 9);
            desk.verb(1, mode, mode, 1000, 9);
        }
        desk.call(0, 1, 2, 999_999);
        desk.call(1, 0, 2, -999_999);
        desk.call(0, 2, 7, 0);
        return desk;
    }

    private static void simulates(Checks checks, ServiceDesk desk, long want, int[] c) {
        String what = "simulate " + c[0] + " " + c[1] + " " + c[2] + " " + c[3];
        int book = desk.book();
        checks.due(what, want, () -> desk.simulate(c[0], c[1], c[2], c[3]));
        checks.due(what + " again", want, () -> desk.simulate(c[0], c[1], c[2], c[3]));
        checks.due(what + " changes nothing", book, desk::book);
        checks.due("call as " + what, want, () -> desk.call(c[0], c[1], c[2], c[3]));
    }

    private static void answersAsACallAndChangesNothing(Checks checks) {
        ServiceDesk desk = filledDesk();
        int turns = desk.count(0);
        checks.due("no turn", turns, () -> {
            desk.simulate(0, 0, 2, 5);
            desk.simulate(0, 0, 4, 5);
            return desk.count(0);
        });
        checks.due("no row", 0, () -> desk.count(1));
        simulates(checks, desk, 1009, new int[] {0, 1, 1, 0});
        simulates(checks, desk, 5009, new int[] {0, 0, 2, 5});
        simulates(checks, desk, 5_009_014, new int[] {0, 0, 3, 5});
        simulates(checks, desk, FAILED - 1, new int[] {0, 0, 4, 5});
        simulates(checks, desk, 2513, new int[] {0, 0, 5, 2});
        simulates(checks, desk, FAILED - 10, new int[] {0, 0, 5, 0});
        simulates(checks, desk, FAILED - 11, new int[] {0, 0, 6, 1});
        simulates(checks, desk, FAILED - 9, new int[] {0, 1, 2, 1});
        simulates(checks, desk, 999_999_010, new int[] {1, 1, 6, 1});
        simulates(checks, desk, FAILED - 9, new int[] {1, 1, 6, 1000});
        simulates(checks, desk, FAILED - 12, new int[] {0, 0, 7, 0});
        simulates(checks, desk, 1, new int[] {1, 0, 7, 0});
        simulates(checks, desk, 1, new int[] {0, 0, 7, 0});
    }

    private static void throwsAsACall(Checks checks) {
        ServiceDesk desk = filledDesk();
        int[] wild = {Integer.MIN_VALUE, -1, 8, 30, Integer.MAX_VALUE};
        for (int wrong : wild) {
            checks.refused(desk, "kind", Checks.UNKNOWN, () -> desk.simulate(wrong, 0, 1, 0));
            checks.refused(desk, "subject", Checks.UNKNOWN, () -> desk.simulate(0, wrong, 1, 0));
            checks.refused(desk, "verb", Checks.UNKNOWN, () -> desk.simulate(0, 0, wrong, 0));
        }
        checks.refused(desk, "no mode", Checks.UNKNOWN, () -> desk.simulate(0, 0, 0, 0));
        int[] far = {Integer.MIN_VALUE, -1_000_001, 1_000_001, Integer.MAX_VALUE};
        for (int wrong : far) {
            checks.refused(desk, "argument", Checks.RANGE, () -> desk.simulate(0, 0, 1, wrong));
            checks.refused(desk, "unknown before range", Checks.UNKNOWN,
                    () -> desk.simulate(0, 0, 0, wrong));
            checks.refused(desk, "range before state", Checks.RANGE,
                    () -> desk.simulate(0, 2, 1, wrong));
        }
        checks.refused(desk, "closed", Checks.STATE, () -> desk.simulate(0, 2, 1, 0));
        checks.refused(desk, "unknown before state", Checks.UNKNOWN,
                () -> desk.simulate(0, 2, 0, 0));
    }
}
