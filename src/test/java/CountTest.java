/** Promise 13: count. */
public final class CountTest {
    public static void main(String[] args) {
        Checks checks = new Checks();
        counts(checks);
        unknownNumbers(checks);
        checks.end();
    }

    private static void countsAre(Checks checks, ServiceDesk desk, int[] want) {
        for (int what = 0; what < 4; what++) {
            int w = what;
            checks.due("count " + w, want[w], () -> desk.count(w));
        }
    }

    private static void counts(Checks checks) {
        ServiceDesk desk = new ServiceDesk();
        desk.under(7, 0);
        desk.make(0, -1);
        desk.make(0, -1);
        desk.make(7, 1);
        desk.make(3, -1);
        countsAre(checks, desk, new int[] {0, 0, 4, 4});
        desk.verb(7, 0, 7, 0, 0);
        desk.verb(0, 0, 7, 0, 0);
        desk.call(7, 0, 0, 0);
        countsAre(checks, desk, new int[] {1, 0, 4, 3});
        checks.throwing("closed", Checks.STATE, () -> desk.call(7, 0, 0, 0));
        countsAre(checks, desk, new int[] {2, 1, 4, 3});
        checks.throwing("unknown", Checks.UNKNOWN, () -> desk.call(7, 0, 1, 0));
        countsAre(checks, desk, new int[] {3, 2, 4, 3});
        checks.throwing("simulated", Checks.UNKNOWN, () -> desk.simulate(7, 0, 1, 0));
        desk.simulate(0, 0, 0, 0);
        countsAre(checks, desk, new int[] {3, 2, 4, 3});
        desk.call(0, 0, 0, 0);
        countsAre(checks, desk, new int[] {4, 2, 4, 2});
    }

    private static void unknownNumbers(Checks checks) {
        ServiceDesk desk = new ServiceDesk();
        int[] wild = {Integer.MIN_VALUE, -1, 4, Integer.MAX_VALUE};
        for (int wrong : wild) {
            checks.refused(desk, "what " + wrong, Checks.UNKNOWN, () -> desk.count(wrong));
        }
    }
}
