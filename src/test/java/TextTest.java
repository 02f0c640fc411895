/** Promises 7, 8 and 9: text, textAt and find. */
public final class TextTest {
    private static final int[] WILD = {Integer.MIN_VALUE, -1, 8, 30, Integer.MAX_VALUE};

    public static void main(String[] args) {
        Checks checks = new Checks();
        highestByteFirst(checks);
        growsToSixteen(checks);
        textRefusals(checks);
        textAtRefusals(checks);
        finds(checks);
        findsOnlyOpenOnes(checks);
        fullKinds(checks);
        findRefusals(checks);
        checks.end();
    }

    private static ServiceDesk deskOf(int subjects) {
        ServiceDesk desk = new ServiceDesk();
        for (int i = 0; i < subjects; i++) {
            desk.make(0, -1);
        }
        desk.verb(0, 0, 7, 0, 0);
        return desk;
    }

    private static void textIs(Checks checks, ServiceDesk desk, int subject, int[] bytes) {
        for (int i = 0; i < bytes.length; i++) {
            int at = i;
            checks.due("byte " + at, bytes[at], () -> desk.textAt(0, subject, at));
        }
        int end = bytes.length;
        checks.due("behind it", -1, () -> desk.textAt(0, subject, end));
    }

    private static void highestByteFirst(Checks checks) {
        ServiceDesk desk = deskOf(3);
        checks.due("three", 3, () -> desk.text(0, 1, 0x7F_41_42_43L, 3));
        textIs(checks, desk, 1, new int[] {0x41, 0x42, 0x43});
        textIs(checks, desk, 0, new int[0]);
        textIs(checks, desk, 2, new int[0]);
        checks.due("one more", 4, () -> desk.text(0, 1, 0x1_FFL, 1));
        textIs(checks, desk, 1, new int[] {0x41, 0x42, 0x43, 255});
        checks.due("eight", 8, () -> desk.text(0, 2, 0x80_01_02_03_04_05_06_FFL, 8));
        textIs(checks, desk, 2, new int[] {0x80, 1, 2, 3, 4, 5, 6, 255});
        checks.due("zeros", 2, () -> desk.text(0, 0, 0, 2));
        textIs(checks, desk, 0, new int[] {0, 0});
        checks.due("texts are no turns", 0, () -> desk.count(0));
    }

    private static void growsToSixteen(Checks checks) {
        ServiceDesk desk = deskOf(2);
        checks.due("8", 8, () -> desk.text(0, 0, -1, 8));
        checks.due("15", 15, () -> desk.text(0, 0, 1, 7));
        checks.refused(desk, "17", Checks.NO_ROOM, () -> desk.text(0, 0, 2, 2));
        checks.due("16", 16, () -> desk.text(0, 0, 3, 1));
        for (int n = 1; n <= 8; n++) {
            int more = n;
            checks.refused(desk, "more", Checks.NO_ROOM, () -> desk.text(0, 0, 4, more));
        }
        textIs(checks, desk, 0, new int[] {255, 255, 255, 255, 255, 255, 255, 255,
            0, 0, 0, 0, 0, 0, 1, 3});
        textIs(checks, desk, 1, new int[0]);
    }

    private static void textRefusals(Checks checks) {
        ServiceDesk desk = deskOf(3);
        desk.text(0, 1, 0, 8);
        desk.text(0, 1, 0, 8);
        desk.call(0, 1, 0, 0);
        desk.call(0, 2, 0, 0);
        for (int wrong : WILD) {
            checks.refused(desk, "kind", Checks.UNKNOWN, () -> desk.text(wrong, 0, 0, 1));
            checks.refused(desk, "subject", Checks.UNKNOWN, () -> desk.text(0, wrong, 0, 1));
            checks.refused(desk, "unknown before range", Checks.UNKNOWN,
                    () -> desk.text(wrong, 0, 0, 9));
        }
        checks.refused(desk, "subject 3", Checks.UNKNOWN, () -> desk.text(0, 3, 0, 1));
        int[] far = {Integer.MIN_VALUE, -1, 0, 9, Integer.MAX_VALUE};
        for (int wrong : far) {
            checks.refused(desk, "n", Checks.RANGE, () -> desk.text(0, 0, 0, wrong));
            checks.refused(desk, "range before state", Checks.RANGE,
                    () -> desk.text(0, 2, 0, wrong));
            checks.refused(desk, "range before room", Checks.RANGE,
                    () -> desk.text(0, 1, 0, wrong));
        }
        checks.refused(desk, "closed", Checks.STATE, () -> desk.text(0, 2, 0, 1));
        checks.refused(desk, "state before room", Checks.STATE, () -> desk.text(0, 1, 0, 1));
    }

    private static void textAtRefusals(Checks checks) {
        ServiceDesk desk = deskOf(2);
        desk.text(0, 1, 65, 1);
        desk.call(0, 1, 0, 0);
        checks.due("of a closed one", 65, () -> desk.textAt(0, 1, 0));
        checks.due("far behind it", -1, () -> desk.textAt(0, 1, 16));
        checks.due("farther", -1, () -> desk.textAt(0, 1, Integer.MAX_VALUE));
        for (int wrong : WILD) {
            checks.refused(desk, "kind", Checks.UNKNOWN, () -> desk.textAt(wrong, 0, 0));
            checks.refused(desk, "subject", Checks.UNKNOWN, () -> desk.textAt(0, wrong, 0));
            checks.refused(desk, "unknown before range", Checks.UNKNOWN,
                    () -> desk.textAt(0, wrong, -1));
        }
        checks.refused(desk, "subject 2", Checks.UNKNOWN, () -> desk.textAt(0, 2, 0));
        checks.refused(desk, "i", Checks.RANGE, () -> desk.textAt(0, 0, -1));
        checks.refused(desk, "i", Checks.RANGE, () -> desk.textAt(0, 1, Integer.MIN_VALUE));
    }

    private static void finds(Checks checks) {
        ServiceDesk desk = deskOf(5);
        desk.make(1, -1);
        desk.text(0, 1, 0x4142, 2);
        desk.text(0, 2, 0x414243, 3);
        desk.text(0, 3, 0x41, 1);
        desk.text(0, 3, 0x42, 1);
        desk.text(0, 4, -1, 8);
        checks.due("without a text", 0, () -> desk.find(0, 12345, 0));
        checks.due("the lowest of two", 1, () -> desk.find(0, 0x4142, 2));
        checks.due("the lowest n bytes alone", 1, () -> desk.find(0, 0x99_4142L, 2));
        checks.due("three", 2, () -> desk.find(0, 0x414243, 3));
        checks.due("only a part", -1, () -> desk.find(0, 0x41, 1));
        checks.due("another first byte", -1, () -> desk.find(0, 0x5142, 2));
        checks.due("another last byte", -1, () -> desk.find(0, 0x4152, 2));
        checks.due("its end", -1, () -> desk.find(0, 0x4243, 2));
        checks.due("the other way round", -1, () -> desk.find(0, 0x4241, 2));
        checks.due("with a 0 before", -1, () -> desk.find(0, 0x4142, 3));
        checks.due("eight", 4, () -> desk.find(0, -1, 8));
        checks.due("seven of eight", -1, () -> desk.find(0, -1, 7));
        checks.due("not in another kind", -1, () -> desk.find(1, 0x4142, 2));
        checks.due("another kind's", 0, () -> desk.find(1, 0, 0));
        desk.text(0, 4, 0, 1);
        checks.due("nine", -1, () -> desk.find(0, -1, 8));
    }

    private static void findsOnlyOpenOnes(Checks checks) {
        ServiceDesk desk = deskOf(3);
        desk.text(0, 0, 65, 1);
        desk.text(0, 2, 65, 1);
        desk.call(0, 0, 0, 0);
        checks.due("the open one", 2, () -> desk.find(0, 65, 1));
        desk.call(0, 2, 0, 0);
        checks.due("none is open", -1, () -> desk.find(0, 65, 1));
        desk.call(0, 1, 0, 0);
        checks.due("none is open, no text", -1, () -> desk.find(0, 0, 0));
    }

    private static void fullKinds(Checks checks) {
        ServiceDesk desk = deskOf(30);
        for (int number = 0; number < 30; number++) {
            desk.make(1, -1);
            desk.make(7, -1);
        }
        desk.text(1, 0, 65, 1);
        checks.due("the next kind's first is not of this kind", -1, () -> desk.find(0, 65, 1));
        checks.due("behind the last of all", -1, () -> desk.find(7, 65, 1));
        desk.text(0, 29, -1, 8);
        checks.due("full", 16, () -> desk.text(0, 29, -1, 8));
        checks.due("the next one's text stays", 65, () -> desk.textAt(1, 0, 0));
        desk.text(7, 29, -1, 8);
        checks.due("the last of all is full", 16, () -> desk.text(7, 29, 7, 8));
        checks.due("its last byte", 7, () -> desk.textAt(7, 29, 15));
        checks.due("behind it", -1, () -> desk.textAt(7, 29, 16));
    }

    private static void findRefusals(Checks checks) {
        ServiceDesk desk = deskOf(1);
        for (int wrong : WILD) {
            checks.refused(desk, "kind", Checks.UNKNOWN, () -> desk.find(wrong, 0, 0));
            checks.refused(desk, "unknown before range", Checks.UNKNOWN,
                    () -> desk.find(wrong, 0, 9));
        }
        int[] far = {Integer.MIN_VALUE, -1, 9, Integer.MAX_VALUE};
        for (int wrong : far) {
            checks.refused(desk, "n", Checks.RANGE, () -> desk.find(0, 0, wrong));
            checks.refused(desk, "n without subjects", Checks.RANGE,
                    () -> desk.find(1, 0, wrong));
        }
    }
}
