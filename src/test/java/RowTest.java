/** Promise 11: row. */
public final class RowTest {
    public static void main(String[] args) {
        Checks checks = new Checks();
        numbersAsTheyWereCalled(checks);
        eightyAreKept(checks);
        unknownNumbers(checks);
        checks.end();
    }

    private static void ignoreRefusal(Checks.Deed deed) {
        try {
            deed.run();
        } catch (IllegalArgumentException e) {
            return;
        }
    }

    private static void numbersAsTheyWereCalled(Checks checks) {
        ServiceDesk desk = new ServiceDesk();
        desk.make(2, -1);
        desk.verb(2, 5, 4, 4, 0);
        desk.verb(2, 6, 1, 0, 0);
        desk.call(2, 0, 6, 0);
        desk.call(2, 0, 5, 9);
        ignoreRefusal(() -> desk.call(-77, Integer.MAX_VALUE, Integer.MIN_VALUE, 9));
        int[][] want = {{2, 2, 0, 5, 5}, {3, -77, Integer.MAX_VALUE, Integer.MIN_VALUE, 13}};
        for (int i = 0; i < want.length; i++) {
            for (int what = 0; what < 5; what++) {
                int row = i;
                int w = what;
                checks.due("row " + row + " " + w, want[row][w], () -> desk.row(row, w));
            }
        }
        checks.refused(desk, "row 2", Checks.UNKNOWN, () -> desk.row(2, 0));
    }

    private static void eightyAreKept(Checks checks) {
        ServiceDesk desk = new ServiceDesk();
        desk.make(0, -1);
        desk.verb(0, 0, 4, 0, 0);
        for (int turn = 1; turn <= 80; turn++) {
            desk.call(0, 0, 0, turn);
        }
        checks.due("the first's turn", 1, () -> desk.row(0, 0));
        checks.due("the last's turn", 80, () -> desk.row(79, 0));
        desk.call(0, 0, 0, 81);
        ignoreRefusal(() -> desk.call(9, 0, 0, 82));
        checks.due("turns", 82, () -> desk.count(0));
        checks.due("rows", 80, () -> desk.count(1));
        checks.due("the first's turn stays", 1, () -> desk.row(0, 0));
        checks.due("the last's turn stays", 80, () -> desk.row(79, 0));
        checks.refused(desk, "row 80", Checks.UNKNOWN, () -> desk.row(80, 0));
    }

    private static void unknownNumbers(Checks checks) {
        ServiceDesk desk = new ServiceDesk();
        ignoreRefusal(() -> desk.call(0, 0, 0, 0));
        int[] wild = {Integer.MIN_VALUE, -1, 5, 80, Integer.MAX_VALUE};
        for (int wrong : wild) {
            checks.refused(desk, "row", Checks.UNKNOWN, () -> desk.row(wrong, 0));
            checks.refused(desk, "what", Checks.UNKNOWN, () -> desk.row(0, wrong));
        }
        checks.refused(desk, "row 1", Checks.UNKNOWN, () -> desk.row(1, 0));
        checks.due("row 0", 13, () -> desk.row(0, 4));
    }
}
