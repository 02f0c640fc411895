/** Promise 5: call. */
public final class CallTest {
    private static final long FAILED = -9_000_000_000_000L;

    public static void main(String[] args) {
        Checks checks = new Checks();
        tell(checks);
        add(checks);
        read(checks);
        fail(checks);
        part(checks);
        pass(checks);
        close(checks);
        closeWithOpenOnesUnder(checks);
        refusalsAreTold(checks);
        orderOfRefusals(checks);
        failuresChangeNothing(checks);
        checks.end();
    }

    private static ServiceDesk deskWith(int mode, int a, int b) {
        ServiceDesk desk = new ServiceDesk();
        desk.make(0, -1);
        desk.make(0, -1);
        desk.make(0, -1);
        desk.verb(0, 0, mode, a, b);
        desk.verb(0, 1, 2, 1000, 0);
        desk.verb(0, 2, 2, 1, 0);
        return desk;
    }

    private static void failsWith(Checks checks, ServiceDesk desk, int kind, int[] numbers) {
        int rows = desk.count(1);
        int turns = desk.count(0);
        checks.due("failure " + kind, FAILED - kind,
                () -> desk.call(numbers[0], numbers[1], numbers[2], numbers[3]));
        rowIs(checks, desk, rows, new int[] {turns + 1, numbers[0], numbers[1], numbers[2], kind});
    }

    private static void rowIs(Checks checks, ServiceDesk desk, int row, int[] numbers) {
        checks.due("rows", row + 1, () -> desk.count(1));
        for (int what = 0; what < 5; what++) {
            int w = what;
            checks.due("row " + row + " " + w, numbers[w], () -> desk.row(row, w));
        }
    }

    private static void tell(Checks checks) {
        ServiceDesk desk = deskWith(1, -1000, 7);
        checks.due("of subject 0", 7, () -> desk.call(0, 0, 0, 1_000_000));
        checks.due("of subject 2", -1993, () -> desk.call(0, 2, 0, -1_000_000));
        checks.due("turns", 2, () -> desk.count(0));
        checks.due("no rows", 0, () -> desk.count(1));
        checks.due("the sum stays", 0, () -> desk.subject(0, 2, 2));
    }

    private static void add(Checks checks) {
        ServiceDesk desk = deskWith(2, 3, -1);
        checks.due("one", 29, () -> desk.call(0, 1, 0, 10));
        checks.due("more", 22, () -> desk.call(0, 1, 0, -2));
        checks.due("kept", 22, () -> desk.subject(0, 1, 2));
        checks.due("not another's", 0, () -> desk.subject(0, 0, 2));
        checks.due("highest", 1_000_000_000, () -> desk.call(0, 2, 1, 1_000_000));
        failsWith(checks, desk, 9, new int[] {0, 2, 2, 1});
        checks.due("still highest", 1_000_000_000, () -> desk.call(0, 2, 2, 0));
        failsWith(checks, desk, 9, new int[] {0, 2, 1, 1_000_000});
        checks.due("back", 0, () -> desk.call(0, 2, 1, -1_000_000));
        checks.due("lowest", -1_000_000_000, () -> desk.call(0, 2, 1, -1_000_000));
        failsWith(checks, desk, 9, new int[] {0, 2, 2, -1});
        failsWith(checks, desk, 9, new int[] {0, 2, 1, -1_000_000});
        checks.due("still lowest", -1_000_000_000, () -> desk.subject(0, 2, 2));
    }

    private static void read(Checks checks) {
        ServiceDesk desk = deskWith(3, 1000, 1000);
        desk.call(0, 1, 1, 1_000_000);
        desk.call(0, 2, 1, -1_000_000);
        checks.due("of 0", 1005, () -> desk.call(0, 0, 0, 5));
        checks.due("of the highest", 1_000_001_001_000L, () -> desk.call(0, 1, 0, 1_000_000));
        checks.due("of the lowest", -1_000_000_999_000L, () -> desk.call(0, 2, 0, -1_000_000));
        desk.verb(0, 0, 3, 1000, -1000);
        checks.due("lowest of all", -1_000_001_001_000L, () -> desk.call(0, 2, 0, -1_000_000));
        checks.due("no rows", 0, () -> desk.count(1));
        checks.due("the sum stays", 1_000_000_000, () -> desk.subject(0, 1, 2));
    }

    private static void fail(Checks checks) {
        int[] as = {0, 1, 6, 7, 8, 9, 1000, -1, -8, -1000};
        int[] kinds = {1, 2, 7, 8, 1, 2, 1, 8, 1, 1};
        for (int i = 0; i < as.length; i++) {
            failsWith(checks, deskWith(4, as[i], 3), kinds[i], new int[] {0, 2, 0, 4});
        }
    }

    private static void part(Checks checks) {
        ServiceDesk desk = deskWith(5, 999, 10);
        desk.call(0, 1, 2, 26);
        desk.call(0, 2, 2, -26);
        checks.due("26 over 3", 18, () -> desk.call(0, 1, 0, 3));
        checks.due("26 over -3", 2, () -> desk.call(0, 1, 0, -3));
        checks.due("-26 over 3", 2, () -> desk.call(0, 2, 0, 3));
        checks.due("-26 over -3", 18, () -> desk.call(0, 2, 0, -3));
        checks.due("26 over 27", 10, () -> desk.call(0, 1, 0, 27));
        failsWith(checks, desk, 10, new int[] {0, 1, 0, 0});
        failsWith(checks, desk, 10, new int[] {0, 0, 0, 0});
        checks.due("the sum stays", 26, () -> desk.subject(0, 1, 2));
    }

    private static void pass(Checks checks) {
        ServiceDesk desk = deskWith(6, 5, 5);
        desk.under(1, 0);
        desk.make(1, 2);
        desk.make(1, 0);
        desk.verb(1, 0, 6, 5, 5);
        checks.due("to 2", 500, () -> desk.call(1, 0, 0, 500));
        checks.due("to 0", -7, () -> desk.call(1, 1, 0, -7));
        checks.due("sum of 2", 500, () -> desk.subject(0, 2, 2));
        checks.due("sum of 0", -7, () -> desk.subject(0, 0, 2));
        checks.due("own sum", 0, () -> desk.subject(1, 0, 2));
        failsWith(checks, desk, 11, new int[] {0, 0, 0, 1});
        failsWith(checks, desk, 11, new int[] {0, 2, 0, 0});
        desk.call(0, 2, 1, 999_999);
        failsWith(checks, desk, 9, new int[] {1, 0, 0, 501});
        checks.due("to the highest", 1_000_000_000, () -> desk.call(1, 0, 0, 500));
        desk.call(0, 0, 1, -999_999);
        failsWith(checks, desk, 9, new int[] {1, 1, 0, -994});
        checks.due("to the lowest", -1_000_000_000, () -> desk.call(1, 1, 0, -993));
    }

    private static void close(Checks checks) {
        ServiceDesk desk = deskWith(7, 5, 5);
        desk.make(1, -1);
        desk.text(0, 1, 65, 1);
        checks.due("one", 2, () -> desk.call(0, 1, 0, 5));
        checks.due("it is closed", 0, () -> desk.subject(0, 1, 1));
        checks.due("another is not", 1, () -> desk.subject(0, 0, 1));
        checks.throwing("again", Checks.STATE, () -> desk.call(0, 1, 0, 5));
        checks.due("the next", 1, () -> desk.call(0, 0, 0, 0));
        checks.due("the last", 0, () -> desk.call(0, 2, 0, 0));
        checks.due("open ones", 1, () -> desk.count(3));
        checks.due("its text stays", 65, () -> desk.textAt(0, 1, 0));
    }

    private static void closeWithOpenOnesUnder(Checks checks) {
        ServiceDesk desk = deskWith(7, 0, 0);
        desk.under(1, 0);
        desk.under(7, 0);
        desk.under(2, 1);
        desk.verb(1, 0, 7, 0, 0);
        desk.verb(2, 0, 7, 0, 0);
        desk.verb(7, 0, 7, 0, 0);
        desk.make(1, 1);
        desk.make(7, 1);
        desk.make(2, 0);
        failsWith(checks, desk, 12, new int[] {0, 1, 0, 0});
        failsWith(checks, desk, 12, new int[] {1, 0, 0, 0});
        checks.due("the lowest", 0, () -> desk.call(2, 0, 0, 0));
        checks.due("the middle", 0, () -> desk.call(1, 0, 0, 0));
        failsWith(checks, desk, 12, new int[] {0, 1, 0, 0});
        checks.due("still open", 1, () -> desk.subject(0, 1, 1));
        checks.due("of the other kind", 0, () -> desk.call(7, 0, 0, 0));
        checks.due("none is under it", 2, () -> desk.call(0, 1, 0, 0));
        checks.due("none ever was", 1, () -> desk.call(0, 0, 0, 0));
    }

    private static void refusalsAreTold(Checks checks) {
        ServiceDesk desk = deskWith(7, 0, 0);
        int[][] calls = {
            {-1, 0, 0, 0}, {8, 0, 0, 0}, {Integer.MIN_VALUE, 0, 0, 0}, {Integer.MAX_VALUE, 1, 2, 0},
            {0, -1, 0, 0}, {0, 3, 0, 0}, {0, Integer.MAX_VALUE, 0, 0}, {0, Integer.MIN_VALUE, 0, 0},
            {0, 0, -1, 0}, {0, 0, 8, 0}, {0, 0, Integer.MAX_VALUE, 0}, {0, 0, Integer.MIN_VALUE, 0},
            {0, 0, 3, 0}, {1, 0, 0, 0},
        };
        for (int i = 0; i < calls.length; i++) {
            int[] c = calls[i];
            checks.throwing("unknown", Checks.UNKNOWN, () -> desk.call(c[0], c[1], c[2], c[3]));
            rowIs(checks, desk, i, new int[] {i + 1, c[0], c[1], c[2], 13});
        }
        int rows = calls.length;
        int[] wild = {-1_000_001, 1_000_001, Integer.MIN_VALUE, Integer.MAX_VALUE};
        for (int wrong : wild) {
            checks.throwing("argument " + wrong, Checks.RANGE, () -> desk.call(0, 2, 1, wrong));
            rows++;
            rowIs(checks, desk, rows - 1, new int[] {rows, 0, 2, 1, 14});
        }
        desk.call(0, 1, 0, 0);
        checks.throwing("closed", Checks.STATE, () -> desk.call(0, 1, 2, 0));
        rowIs(checks, desk, rows, new int[] {rows + 2, 0, 1, 2, 15});
        checks.due("turns", rows + 2, () -> desk.count(0));
    }

    private static void orderOfRefusals(Checks checks) {
        ServiceDesk desk = deskWith(7, 0, 0);
        desk.call(0, 1, 0, 0);
        checks.throwing("unknown before range", Checks.UNKNOWN,
                () -> desk.call(0, 0, 7, 1_000_001));
        checks.throwing("unknown before state", Checks.UNKNOWN, () -> desk.call(0, 1, 7, 0));
        checks.throwing("range before state", Checks.RANGE, () -> desk.call(0, 1, 0, 1_000_001));
        checks.due("first row", 13, () -> desk.row(0, 4));
        checks.due("second row", 13, () -> desk.row(1, 4));
        checks.due("third row", 14, () -> desk.row(2, 4));
        desk.verb(0, 3, 4, 0, 0);
        checks.throwing("state before a failure", Checks.STATE, () -> desk.call(0, 1, 3, 0));
    }

    private static void failuresChangeNothing(Checks checks) {
        ServiceDesk desk = deskWith(4, 0, 0);
        desk.call(0, 1, 2, 77);
        desk.call(0, 1, 0, 0);
        desk.verb(0, 3, 5, 0, 0);
        desk.call(0, 1, 3, 0);
        checks.throwing("refused", Checks.RANGE, () -> desk.call(0, 1, 2, 1_000_001));
        checks.due("the sum", 77, () -> desk.subject(0, 1, 2));
        checks.due("open ones", 3, () -> desk.count(3));
        checks.due("turns", 4, () -> desk.count(0));
        checks.due("rows", 3, () -> desk.count(1));
    }
}
