/** Promise 1: a new object. */
public final class NewObjectTest {
    public static void main(String[] args) {
        Checks checks = new Checks();
        nothingIsThere(checks);
        kindsAreUnderNone(checks);
        verbsHaveNoModes(checks);
        objectsAreApart(checks);
        checks.end();
    }

    private static void nothingIsThere(Checks checks) {
        ServiceDesk desk = new ServiceDesk();
        checks.due("book", -428131732, desk::book);
        for (int what = 0; what < 4; what++) {
            int w = what;
            checks.due("count " + w, 0, () -> desk.count(w));
        }
        for (int kind = 0; kind < 8; kind++) {
            int k = kind;
            checks.due("find in kind " + k, -1, () -> desk.find(k, 0, 0));
            checks.throwing("subject of kind " + k, Checks.UNKNOWN, () -> desk.subject(k, 0, 0));
            checks.throwing("text of kind " + k, Checks.UNKNOWN, () -> desk.textAt(k, 0, 0));
        }
        checks.throwing("row", Checks.UNKNOWN, () -> desk.row(0, 0));
        checks.due("clock", 1, () -> desk.tick(1));
    }

    private static void kindsAreUnderNone(Checks checks) {
        ServiceDesk desk = new ServiceDesk();
        for (int kind = 0; kind < 8; kind++) {
            int k = kind;
            checks.refused(desk, "make under 0", Checks.UNKNOWN, () -> desk.make(k, 0));
            checks.due("make under none", 0, () -> desk.make(k, -1));
            checks.due("it is under none", -1, () -> desk.subject(k, 0, 0));
        }
    }

    private static void verbsHaveNoModes(Checks checks) {
        ServiceDesk desk = new ServiceDesk();
        for (int kind = 0; kind < 8; kind++) {
            desk.make(kind, -1);
            for (int verb = 0; verb < 8; verb++) {
                int k = kind;
                int v = verb;
                checks.throwing("simulate " + k + " " + v, Checks.UNKNOWN,
                        () -> desk.simulate(k, 0, v, 0));
            }
        }
    }

    private static void objectsAreApart(Checks checks) {
        ServiceDesk one = new ServiceDesk();
        ServiceDesk other = new ServiceDesk();
        one.under(1, 0);
        one.make(0, -1);
        one.verb(0, 0, 1, 1, 1);
        one.text(0, 0, 65, 1);
        one.tick(9);
        checks.due("the other's book", -428131732, other::book);
        checks.due("the other's make", 0, () -> other.make(1, -1));
    }
}
