/** Promise 3: make. */
public final class MakeTest {
    public static void main(String[] args) {
        Checks checks = new Checks();
        numbersInOrder(checks);
        underOneOfTheKindAbove(checks);
        unknownNumbers(checks);
        notUnderAClosedOne(checks);
        thirtyOfAKind(checks);
        ordersOfRefusals(checks);
        checks.end();
    }

    private static void numbersInOrder(Checks checks) {
        ServiceDesk desk = new ServiceDesk();
        desk.verb(0, 0, 7, 0, 0);
        checks.due("first", 0, () -> desk.make(0, -1));
        checks.due("second", 1, () -> desk.make(0, -1));
        checks.due("another kind's first", 0, () -> desk.make(1, -1));
        desk.call(0, 1, 0, 0);
        checks.due("a closed one's number is not given twice", 2, () -> desk.make(0, -1));
        checks.due("it is open", 1, () -> desk.subject(0, 2, 1));
        checks.due("its sum", 0, () -> desk.subject(0, 2, 2));
        checks.due("its text", -1, () -> desk.textAt(0, 2, 0));
        checks.due("made", 4, () -> desk.count(2));
    }

    private static void underOneOfTheKindAbove(Checks checks) {
        ServiceDesk desk = new ServiceDesk();
        desk.under(5, 6);
        checks.refused(desk, "none to be under", Checks.UNKNOWN, () -> desk.make(5, 0));
        desk.make(6, -1);
        desk.make(6, -1);
        checks.due("under 1", 0, () -> desk.make(5, 1));
        checks.due("it is under 1", 1, () -> desk.subject(5, 0, 0));
        checks.due("under 0", 1, () -> desk.make(5, 0));
        checks.due("it is under 0", 0, () -> desk.subject(5, 1, 0));
        checks.refused(desk, "under 2", Checks.UNKNOWN, () -> desk.make(5, 2));
        checks.refused(desk, "under -1", Checks.UNKNOWN, () -> desk.make(5, -1));
        checks.refused(desk, "one under none", Checks.UNKNOWN, () -> desk.make(6, 0));
    }

    private static void unknownNumbers(Checks checks) {
        ServiceDesk desk = new ServiceDesk();
        desk.under(1, 0);
        desk.make(0, -1);
        int[] wild = {Integer.MIN_VALUE, -2, 8, 30, Integer.MAX_VALUE};
        for (int wrong : wild) {
            checks.refused(desk, "kind " + wrong, Checks.UNKNOWN, () -> desk.make(wrong, -1));
            checks.refused(desk, "0 under " + wrong, Checks.UNKNOWN, () -> desk.make(0, wrong));
            checks.refused(desk, "1 under " + wrong, Checks.UNKNOWN, () -> desk.make(1, wrong));
        }
        checks.refused(desk, "kind -1", Checks.UNKNOWN, () -> desk.make(-1, -1));
    }

    private static void notUnderAClosedOne(Checks checks) {
        ServiceDesk desk = new ServiceDesk();
        desk.under(1, 0);
        desk.make(0, -1);
        desk.make(0, -1);
        desk.verb(0, 0, 7, 0, 0);
        desk.call(0, 0, 0, 0);
        checks.refused(desk, "under a closed one", Checks.STATE, () -> desk.make(1, 0));
        checks.due("under an open one", 0, () -> desk.make(1, 1));
    }

    private static void thirtyOfAKind(Checks checks) {
        ServiceDesk desk = new ServiceDesk();
        for (int kind = 0; kind < 8; kind++) {
            for (int number = 0; number < 30; number++) {
                int k = kind;
                checks.due("make " + k, number, () -> desk.make(k, -1));
            }
            int k = kind;
            checks.refused(desk, "the 31st of " + k, Checks.NO_ROOM, () -> desk.make(k, -1));
        }
        checks.due("made", 240, () -> desk.count(2));
        desk.verb(7, 7, 7, 0, 0);
        checks.due("close one", 29, () -> desk.call(7, 29, 7, 0));
        checks.refused(desk, "closing makes no room", Checks.NO_ROOM, () -> desk.make(7, -1));
    }

    private static void ordersOfRefusals(Checks checks) {
        ServiceDesk desk = new ServiceDesk();
        desk.under(1, 0);
        desk.make(0, -1);
        desk.make(0, -1);
        for (int number = 0; number < 30; number++) {
            desk.make(1, 0);
        }
        desk.verb(0, 0, 7, 0, 0);
        desk.call(0, 1, 0, 0);
        checks.refused(desk, "unknown before no room", Checks.UNKNOWN, () -> desk.make(1, 2));
        checks.refused(desk, "state before no room", Checks.STATE, () -> desk.make(1, 1));
        checks.refused(desk, "no room", Checks.NO_ROOM, () -> desk.make(1, 0));
    }
}
