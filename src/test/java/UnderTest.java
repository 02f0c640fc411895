/** Promise 2: under. */
public final class UnderTest {
    public static void main(String[] args) {
        Checks checks = new Checks();
        unknownKinds(checks);
        neverUnderItself(checks);
        notWithSubjects(checks);
        canBeChangedAndUndone(checks);
        unknownComesBeforeState(checks);
        checks.end();
    }

    private static void unknownKinds(Checks checks) {
        ServiceDesk desk = new ServiceDesk();
        int[] wrongKinds = {Integer.MIN_VALUE, -2, -1, 8, 9, Integer.MAX_VALUE};
        for (int wrong : wrongKinds) {
            checks.refused(desk, "kind " + wrong, Checks.UNKNOWN, () -> desk.under(wrong, 0));
            checks.refused(desk, "kind " + wrong, Checks.UNKNOWN, () -> desk.under(wrong, -1));
            if (wrong != -1) {
                checks.refused(desk, "above " + wrong, Checks.UNKNOWN, () -> desk.under(0, wrong));
            }
        }
        checks.goes("0 under 7", () -> desk.under(0, 7));
        checks.goes("7 under none", () -> desk.under(7, -1));
    }

    private static void neverUnderItself(Checks checks) {
        ServiceDesk desk = new ServiceDesk();
        for (int kind = 0; kind < 8; kind++) {
            int k = kind;
            checks.refused(desk, k + " under itself", Checks.STATE, () -> desk.under(k, k));
        }
        for (int kind = 0; kind < 7; kind++) {
            int k = kind;
            checks.goes(k + " under the next", () -> desk.under(k, k + 1));
        }
        for (int kind = 0; kind < 8; kind++) {
            int k = kind;
            checks.refused(desk, "7 under " + k, Checks.STATE, () -> desk.under(7, k));
        }
        checks.refused(desk, "5 under 2 by way of 3 and 4", Checks.STATE, () -> desk.under(5, 2));
        checks.goes("2 under 5, on one way up", () -> desk.under(2, 5));
        checks.goes("4 under 3, which is under it no more: 3", () -> desk.under(3, -1));
        checks.goes("4 under 3, which is under it no more: 4", () -> desk.under(4, 3));
    }

    private static void notWithSubjects(Checks checks) {
        ServiceDesk desk = new ServiceDesk();
        desk.under(1, 0);
        desk.make(0, -1);
        checks.refused(desk, "0 has subjects", Checks.STATE, () -> desk.under(0, 2));
        checks.refused(desk, "0 has subjects, none", Checks.STATE, () -> desk.under(0, -1));
        checks.goes("1 has none yet", () -> desk.under(1, -1));
        checks.goes("1 has none yet, again", () -> desk.under(1, 0));
        desk.make(1, 0);
        checks.refused(desk, "1 has subjects", Checks.STATE, () -> desk.under(1, 0));
        desk.verb(1, 0, 7, 0, 0);
        desk.call(1, 0, 0, 0);
        checks.refused(desk, "1 has closed subjects", Checks.STATE, () -> desk.under(1, 2));
        checks.goes("2 under one that has subjects", () -> desk.under(2, 1));
    }

    private static void canBeChangedAndUndone(Checks checks) {
        ServiceDesk desk = new ServiceDesk();
        int plain = desk.book();
        desk.under(3, 4);
        checks.due("the book tells it", 1, () -> desk.book() == plain ? 0 : 1);
        checks.throwing("make under none", Checks.UNKNOWN, () -> desk.make(3, -1));
        desk.under(3, -1);
        checks.due("the book is as before", plain, desk::book);
        checks.due("make under none again", 0, () -> desk.make(3, -1));
    }

    private static void unknownComesBeforeState(Checks checks) {
        ServiceDesk desk = new ServiceDesk();
        desk.make(0, -1);
        checks.refused(desk, "unknown above", Checks.UNKNOWN, () -> desk.under(0, 8));
        checks.refused(desk, "8 under 8", Checks.UNKNOWN, () -> desk.under(8, 8));
    }
}
