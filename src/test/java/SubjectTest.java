/** Promise 10: subject. */
public final class SubjectTest {
    public static void main(String[] args) {
        Checks checks = new Checks();
        tellsOfASubject(checks);
        openOnesRightUnder(checks);
        openOnesOfFirstAndLastKind(checks);
        unknownNumbers(checks);
        checks.end();
    }

    private static void subjectIs(Checks checks, ServiceDesk desk, int[] which, int[] want) {
        for (int what = 0; what < 4; what++) {
            int w = what;
            checks.due("subject " + which[0] + " " + which[1] + " " + w, want[w],
                    () -> desk.subject(which[0], which[1], w));
        }
    }

    private static void tellsOfASubject(Checks checks) {
        ServiceDesk desk = new ServiceDesk();
        desk.under(4, 3);
        desk.make(3, -1);
        desk.make(3, -1);
        desk.make(4, 1);
        desk.verb(4, 0, 2, 1, 0);
        desk.verb(4, 1, 7, 0, 0);
        subjectIs(checks, desk, new int[] {3, 1}, new int[] {-1, 1, 0, 1});
        subjectIs(checks, desk, new int[] {4, 0}, new int[] {1, 1, 0, 0});
        desk.call(4, 0, 0, -55);
        subjectIs(checks, desk, new int[] {4, 0}, new int[] {1, 1, -55, 0});
        desk.call(4, 0, 1, 0);
        subjectIs(checks, desk, new int[] {4, 0}, new int[] {1, 0, -55, 0});
        subjectIs(checks, desk, new int[] {3, 1}, new int[] {-1, 1, 0, 0});
        checks.due("asking is no turn", 2, () -> desk.count(0));
    }

    private static void openOnesRightUnder(Checks checks) {
        ServiceDesk desk = new ServiceDesk();
        desk.under(1, 0);
        desk.under(2, 0);
        desk.under(3, 1);
        desk.make(0, -1);
        desk.make(0, -1);
        desk.make(1, 0);
        desk.make(1, 0);
        desk.make(1, 1);
        desk.make(2, 0);
        desk.make(3, 0);
        desk.make(3, 1);
        desk.make(4, -1);
        desk.verb(1, 0, 7, 0, 0);
        desk.verb(3, 0, 7, 0, 0);
        checks.due("of two kinds, not farther below", 3, () -> desk.subject(0, 0, 3));
        checks.due("another's", 1, () -> desk.subject(0, 1, 3));
        checks.due("in the middle", 1, () -> desk.subject(1, 0, 3));
        checks.due("at the end", 0, () -> desk.subject(3, 0, 3));
        checks.due("of no kind", 0, () -> desk.subject(4, 0, 3));
        desk.call(3, 0, 0, 0);
        desk.call(1, 0, 0, 0);
        checks.due("less the closed one", 2, () -> desk.subject(0, 0, 3));
        checks.due("of the closed one", 0, () -> desk.subject(1, 0, 3));
    }

    private static void openOnesOfFirstAndLastKind(Checks checks) {
        ServiceDesk desk = new ServiceDesk();
        desk.under(0, 3);
        desk.under(7, 3);
        desk.make(3, -1);
        desk.make(0, 0);
        checks.due("of kind 0", 1, () -> desk.subject(3, 0, 3));
        for (int number = 0; number < 30; number++) {
            desk.make(7, 0);
        }
        checks.due("and of a full kind 7", 31, () -> desk.subject(3, 0, 3));
    }

    private static void unknownNumbers(Checks checks) {
        ServiceDesk desk = new ServiceDesk();
        desk.make(0, -1);
        int[] wild = {Integer.MIN_VALUE, -1, 8, 30, Integer.MAX_VALUE};
        for (int wrong : wild) {
            checks.refused(desk, "kind", Checks.UNKNOWN, () -> desk.subject(wrong, 0, 0));
            checks.refused(desk, "subject", Checks.UNKNOWN, () -> desk.subject(0, wrong, 0));
            checks.refused(desk, "what", Checks.UNKNOWN, () -> desk.subject(0, 0, wrong));
        }
        checks.refused(desk, "subject 1", Checks.UNKNOWN, () -> desk.subject(0, 1, 0));
        checks.refused(desk, "kind 1", Checks.UNKNOWN, () -> desk.subject(1, 0, 0));
        checks.refused(desk, "what 4", Checks.UNKNOWN, () -> desk.subject(0, 0, 4));
    }
}
