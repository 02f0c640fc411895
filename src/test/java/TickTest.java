/** Promise 12: tick. */
public final class TickTest {
    public static void main(String[] args) {
        Checks checks = new Checks();
        goesOn(checks);
        ranges(checks);
        endsAtItsBound(checks);
        checks.end();
    }

    private static void goesOn(Checks checks) {
        ServiceDesk desk = new ServiceDesk();
        checks.due("lowest", 1, () -> desk.tick(1));
        checks.due("highest", 100_001, () -> desk.tick(100_000));
        checks.due("some", 100_043, () -> desk.tick(42));
        checks.due("no turns", 0, () -> desk.count(0));
    }

    private static void ranges(Checks checks) {
        ServiceDesk desk = new ServiceDesk();
        desk.tick(3);
        int[] wild = {Integer.MIN_VALUE, -1, 0, 100_001, 1_000_000_000, Integer.MAX_VALUE};
        for (int wrong : wild) {
            checks.refused(desk, "tick " + wrong, Checks.RANGE, () -> desk.tick(wrong));
        }
        checks.due("as before", 4, () -> desk.tick(1));
    }

    /** More calls than an object is promised for: the bound itself is out of their reach. */
    private static void endsAtItsBound(Checks checks) {
        ServiceDesk desk = new ServiceDesk();
        for (int i = 1; i < 10_000; i++) {
            desk.tick(100_000);
        }
        checks.due("near", 999_999_999, () -> desk.tick(99_999));
        checks.refused(desk, "beyond", Checks.RANGE, () -> desk.tick(2));
        checks.due("at the bound", 1_000_000_000, () -> desk.tick(1));
        checks.refused(desk, "beyond", Checks.RANGE, () -> desk.tick(1));
        checks.refused(desk, "far beyond", Checks.RANGE, () -> desk.tick(100_000));
    }
}
