/** Promise 4: verb. */
public final class VerbTest {
    public static void main(String[] args) {
        Checks checks = new Checks();
        eachVerbOfEachKindIsItsOwn(checks);
        canBeSetAgainAndTakenAway(checks);
        unknownNumbers(checks);
        ranges(checks);
        refusalKeepsTheVerb(checks);
        checks.end();
    }

    private static void eachVerbOfEachKindIsItsOwn(Checks checks) {
        ServiceDesk desk = new ServiceDesk();
        for (int kind = 0; kind < 8; kind++) {
            desk.make(kind, -1);
            for (int verb = 0; verb < 8; verb++) {
                desk.verb(kind, verb, 1, 0, kind * 10 + verb);
            }
        }
        for (int kind = 0; kind < 8; kind++) {
            for (int verb = 0; verb < 8; verb++) {
                int k = kind;
                int v = verb;
                checks.due("verb " + k + " " + v, k * 10 + v, () -> desk.simulate(k, 0, v, 0));
            }
        }
    }

    private static void canBeSetAgainAndTakenAway(Checks checks) {
        ServiceDesk desk = new ServiceDesk();
        desk.make(0, -1);
        int plain = desk.book();
        desk.verb(0, 0, 1, 5, 6);
        checks.due("the book does not hold verbs", plain, desk::book);
        checks.due("verbs are no turns", 0, () -> desk.count(0));
        checks.due("tell", 6, () -> desk.simulate(0, 0, 0, 0));
        desk.verb(0, 0, 3, 5, 7);
        checks.due("read", 17, () -> desk.simulate(0, 0, 0, 10));
        desk.verb(0, 0, 0, 5, 7);
        checks.throwing("none", Checks.UNKNOWN, () -> desk.simulate(0, 0, 0, 10));
    }

    private static void unknownNumbers(Checks checks) {
        ServiceDesk desk = new ServiceDesk();
        int[] wild = {Integer.MIN_VALUE, -1, 8, Integer.MAX_VALUE};
        for (int wrong : wild) {
            checks.refused(desk, "kind " + wrong, Checks.UNKNOWN,
                    () -> desk.verb(wrong, 0, 1, 0, 0));
            checks.refused(desk, "verb " + wrong, Checks.UNKNOWN,
                    () -> desk.verb(0, wrong, 1, 0, 0));
            checks.refused(desk, "mode " + wrong, Checks.UNKNOWN,
                    () -> desk.verb(0, 0, wrong, 0, 0));
            checks.refused(desk, "unknown before range " + wrong, Checks.UNKNOWN,
                    () -> desk.verb(0, 0, wrong, 1001, 0));
        }
        for (int mode = 0; mode < 8; mode++) {
            int m = mode;
            checks.goes("mode " + m, () -> desk.verb(7, 7, m, 0, 0));
        }
    }

    private static void ranges(Checks checks) {
        ServiceDesk desk = new ServiceDesk();
        int[] wild = {Integer.MIN_VALUE, -1001, 1001, Integer.MAX_VALUE};
        for (int wrong : wild) {
            checks.refused(desk, "a " + wrong, Checks.RANGE, () -> desk.verb(0, 0, 1, wrong, 0));
            checks.refused(desk, "b " + wrong, Checks.RANGE, () -> desk.verb(0, 0, 1, 0, wrong));
            checks.refused(desk, "a of mode 0 " + wrong, Checks.RANGE,
                    () -> desk.verb(0, 0, 0, wrong, 0));
        }
        checks.goes("lowest", () -> desk.verb(0, 0, 1, -1000, -1000));
        checks.goes("highest", () -> desk.verb(0, 0, 1, 1000, 1000));
    }

    private static void refusalKeepsTheVerb(Checks checks) {
        ServiceDesk desk = new ServiceDesk();
        desk.make(0, -1);
        desk.make(0, -1);
        desk.verb(0, 0, 1, 30, 4);
        checks.throwing("mode", Checks.UNKNOWN, () -> desk.verb(0, 0, 8, 1, 1));
        checks.throwing("a", Checks.RANGE, () -> desk.verb(0, 0, 3, 1001, 1));
        checks.throwing("b", Checks.RANGE, () -> desk.verb(0, 0, 3, 1, -1001));
        checks.due("as before", 34, () -> desk.simulate(0, 1, 0, 9));
    }
}
