/** Promise 14: book. */
public final class BookTest {
    public static void main(String[] args) {
        Checks checks = new Checks();
        writtenOut(checks);
        readingChangesNothing(checks);
        verbsAreNotInIt(checks);
        checks.end();
    }

    private static int sumOf(int... numbers) {
        int s = 0;
        for (int v : numbers) {
            s = Integer.rotateLeft(s ^ v, 5) * 0x85EBCA6B;
        }
        return s;
    }

    private static void bookIs(Checks checks, ServiceDesk desk, int... numbers) {
        checks.due("book of " + numbers.length + " numbers", sumOf(numbers), desk::book);
    }

    private static void writtenOut(Checks checks) {
        ServiceDesk desk = new ServiceDesk();
        bookIs(checks, desk, 0, 0, -1, -1, -1, -1, -1, -1, -1, -1);
        desk.tick(17);
        bookIs(checks, desk, 17, 0, -1, -1, -1, -1, -1, -1, -1, -1);
        desk.under(2, 6);
        bookIs(checks, desk, 17, 0, -1, -1, 6, -1, -1, -1, -1, -1);
        desk.make(6, -1);
        desk.make(6, -1);
        bookIs(checks, desk, 17, 0, -1, -1, 6, -1, -1, -1, -1, -1, 1, 0, -1, 1, 0, -1);
        desk.make(2, 1);
        bookIs(checks, desk, 17, 0, -1, -1, 6, 1, 1, 0, -1, -1, -1, -1, -1, 1, 0, -1, 1, 0, -1);
        desk.text(2, 0, 0xFF00L, 2);
        desk.text(6, 1, 0x41L, 1);
        bookIs(checks, desk, 17, 0, -1, -1, 6, 1, 1, 0, 255, 0, -1, -1, -1, -1, -1, 1, 0,
                -1, 1, 0, 65, -1);
        desk.verb(2, 0, 2, 1, 0);
        desk.verb(2, 1, 7, 0, 0);
        desk.call(2, 0, 0, -4);
        desk.call(2, 0, 1, 0);
        bookIs(checks, desk, 17, 2, -1, -1, 6, 1, 0, -4, 255, 0, -1, -1, -1, -1, -1, 1, 0,
                -1, 1, 0, 65, -1);
        checks.throwing("closed", Checks.STATE, () -> desk.call(2, 0, 1, 0));
        checks.throwing("unknown", Checks.UNKNOWN, () -> desk.call(99, -5, 3, 0));
        bookIs(checks, desk, 17, 4, -1, -1, 6, 1, 0, -4, 255, 0, -1, -1, -1, -1, -1, 1, 0,
                -1, 1, 0, 65, -1, 3, 2, 0, 1, 15, 4, 99, -5, 3, 13);
    }

    private static void readingChangesNothing(Checks checks) {
        ServiceDesk desk = new ServiceDesk();
        desk.make(0, -1);
        desk.verb(0, 0, 2, 1, 1);
        desk.text(0, 0, 65, 1);
        int before = desk.book();
        desk.textAt(0, 0, 0);
        desk.find(0, 65, 1);
        desk.subject(0, 0, 3);
        desk.count(3);
        desk.simulate(0, 0, 0, 5);
        checks.due("as before", before, desk::book);
    }

    private static void verbsAreNotInIt(Checks checks) {
        ServiceDesk desk = new ServiceDesk();
        int before = desk.book();
        desk.verb(3, 3, 3, 3, 3);
        checks.due("as before", before, desk::book);
    }
}
