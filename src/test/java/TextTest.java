/** Promise 7: text. */
public final class TextTest {
    private static final int[] NOT_1_TO_8 = {Integer.MIN_VALUE, -1, 0, 9, 16, Integer.MAX_VALUE};

    public static void main(String[] args) {
        Checks checks = new Checks();
        theLowestBytesTheHighestOfTheseFirst(checks);
        unknownKind(checks);
        unknownSubject(checks);
        rangeOfN(checks);
        closedSubject(checks);
        roomForSixteen(checks);
        roomAtEachLength(checks);
        fullTextsOfNeighbours(checks);
        unknownBeforeRange(checks);
        rangeBeforeState(checks);
        rangeBeforeNoRoom(checks);
        stateBeforeNoRoom(checks);
        noTurn(checks);
        checks.end();
    }

    private static OnScene withText(Checks checks, int length) {
        return new OnScene(checks, () -> sceneWithText(length));
    }

    /** Subject 1 of three has a text of this length: bytes 1, 2, 3, .. */
    private static Scene sceneWithText(int length) {
        Scene scene = new Scene().make(0, -1, 3);
        for (int i = 1; i <= length; i++) {
            scene.text(0, 1, i, 1);
        }
        return scene;
    }

    private static void textIs(Checks checks, ServiceDesk desk, int subject, int... bytes) {
        for (int i = 0; i < bytes.length; i++) {
            int at = i;
            checks.due("byte " + at, bytes[at], () -> desk.textAt(0, subject, at));
        }
        checks.due("behind it", -1, () -> desk.textAt(0, subject, bytes.length));
    }

    /** "n bytes (.. the lowest n, the highest of these first) more ..: how many it has". */
    private static void theLowestBytesTheHighestOfTheseFirst(Checks checks) {
        ServiceDesk desk = sceneWithText(0).desk;
        checks.due("three of four", 3, () -> desk.text(0, 1, 0x7F_41_42_43L, 3));
        textIs(checks, desk, 1, 0x41, 0x42, 0x43);
        checks.due("one more", 4, () -> desk.text(0, 1, 0x1_FFL, 1));
        textIs(checks, desk, 1, 0x41, 0x42, 0x43, 255);
        textIs(checks, desk, 0);
        textIs(checks, desk, 2);
        checks.due("eight", 8, () -> desk.text(0, 2, 0x80_01_02_03_04_05_06_FFL, 8));
        textIs(checks, desk, 2, 0x80, 1, 2, 3, 4, 5, 6, 255);
        checks.due("zeros", 2, () -> desk.text(0, 0, 0, 2));
        textIs(checks, desk, 0, 0, 0);
        checks.due("seven of eight", 9, () -> desk.text(0, 0, 0x11_80_00_00_FF_00_7F_01L, 7));
        textIs(checks, desk, 0, 0, 0, 0x80, 0, 0, 255, 0, 0x7F, 1);
    }

    /** "Unknown: no such kind". */
    private static void unknownKind(Checks checks) {
        OnScene filled = OnScene.filled(checks);
        int[] wild = {Integer.MIN_VALUE, -1, 8, 9, Integer.MAX_VALUE};
        for (int wrong : wild) {
            filled.refuses("kind " + wrong, Checks.UNKNOWN,
                    desk -> desk.text(wrong, 0, 5, 1));
        }
        filled.takes("kind 0", 3, desk -> desk.text(0, 0, 5, 1));
        filled.takes("kind 7", 1, desk -> desk.text(7, 0, 5, 1));
    }

    /** "Unknown: no such .. subject". */
    private static void unknownSubject(Checks checks) {
        OnScene filled = OnScene.filled(checks);
        int[] wild = {Integer.MIN_VALUE, -1, 3, 4, 29, 30, Integer.MAX_VALUE};
        for (int wrong : wild) {
            filled.refuses("subject " + wrong, Checks.UNKNOWN,
                    desk -> desk.text(1, wrong, 5, 1));
        }
        filled.refuses("of a kind without", Checks.UNKNOWN, desk -> desk.text(3, 0, 5, 1));
        filled.takes("the first", 1, desk -> desk.text(1, 0, 5, 1));
        OnScene full = new OnScene(checks, () -> new Scene().make(0, -1, 30).make(1, -1, 1));
        full.takes("the 30th", 1, desk -> desk.text(0, 29, 5, 1));
        full.refuses("behind the 30th", Checks.UNKNOWN, desk -> desk.text(0, 30, 5, 1));
        full.refuses("before the first", Checks.UNKNOWN, desk -> desk.text(1, -1, 5, 1));
    }

    /** "range: n", 1 .. 8. */
    private static void rangeOfN(Checks checks) {
        OnScene filled = OnScene.filled(checks);
        for (int wrong : NOT_1_TO_8) {
            filled.refuses("n " + wrong, Checks.RANGE, desk -> desk.text(0, 0, 5, wrong));
        }
        for (int n = 1; n <= 8; n++) {
            int more = n;
            filled.takes("n " + n, 2 + n, desk -> desk.text(0, 0, 5, more));
        }
    }

    /** "state: it is closed". */
    private static void closedSubject(Checks checks) {
        OnScene filled = OnScene.filled(checks);
        filled.refuses("closed", Checks.STATE, desk -> desk.text(0, 2, 5, 1));
        filled.refuses("closed, eight", Checks.STATE, desk -> desk.text(1, 2, 5, 8));
        filled.takes("the one before it", 1, desk -> desk.text(0, 1, 5, 1));
    }

    /** "no room: above 16". */
    private static void roomForSixteen(Checks checks) {
        withText(checks, 8).takes("16 by 8", 16, desk -> desk.text(0, 1, 5, 8));
        withText(checks, 9).refuses("17 by 8", Checks.NO_ROOM, desk -> desk.text(0, 1, 5, 8));
        withText(checks, 15).takes("16 by 1", 16, desk -> desk.text(0, 1, 5, 1));
        withText(checks, 15).refuses("17 by 2", Checks.NO_ROOM, desk -> desk.text(0, 1, 5, 2));
        withText(checks, 16).refuses("17 by 1", Checks.NO_ROOM, desk -> desk.text(0, 1, 5, 1));
        withText(checks, 16).refuses("24 by 8", Checks.NO_ROOM, desk -> desk.text(0, 1, 5, 8));
    }

    private static void roomAtEachLength(Checks checks) {
        for (int length = 0; length <= 16; length++) {
            for (int n = 1; n <= 8; n++) {
                int more = n;
                String want = length + n > 16 ? Checks.NO_ROOM.getName() : "" + (length + n);
                ServiceDesk desk = sceneWithText(length).desk;
                checks.same(n + " behind " + length,
                        Checks.answerOf(() -> desk.text(0, 1, -1, more)), want);
            }
        }
    }

    private static void fullTextsOfNeighbours(Checks checks) {
        ServiceDesk desk = new Scene().make(0, -1, 30).make(1, -1, 1).make(7, -1, 30)
                .text(1, 0, 65, 1).text(0, 29, -1, 8).text(7, 29, -1, 8).desk;
        checks.due("the last of its kind", 16, () -> desk.text(0, 29, -1, 8));
        checks.due("the next kind's first stays", 65, () -> desk.textAt(1, 0, 0));
        checks.due("of one byte", -1, () -> desk.textAt(1, 0, 1));
        checks.due("the one before it stays", -1, () -> desk.textAt(0, 28, 0));
        checks.due("the last of all", 16, () -> desk.text(7, 29, 7, 8));
        checks.due("its last byte", 7, () -> desk.textAt(7, 29, 15));
        checks.due("behind it", -1, () -> desk.textAt(7, 29, 16));
    }

    /** "Refusals, in this order". */
    private static void unknownBeforeRange(Checks checks) {
        OnScene filled = OnScene.filled(checks);
        for (int wrong : NOT_1_TO_8) {
            filled.refuses("kind, n", Checks.UNKNOWN, desk -> desk.text(8, 0, 5, wrong));
            filled.refuses("subject, n", Checks.UNKNOWN, desk -> desk.text(0, 3, 5, wrong));
        }
    }

    /** "Refusals, in this order". */
    private static void rangeBeforeState(Checks checks) {
        for (int wrong : NOT_1_TO_8) {
            OnScene.filled(checks).refuses("closed, n", Checks.RANGE,
                    desk -> desk.text(0, 2, 5, wrong));
        }
    }

    /** "Refusals, in this order". */
    private static void rangeBeforeNoRoom(Checks checks) {
        for (int wrong : NOT_1_TO_8) {
            OnScene.filled(checks).refuses("full, n", Checks.RANGE,
                    desk -> desk.text(1, 1, 5, wrong));
        }
    }

    /** "Refusals, in this order". */
    private static void stateBeforeNoRoom(Checks checks) {
        OnScene closed = new OnScene(checks, () -> sceneWithText(16).close(0, 1));
        closed.refuses("closed and full", Checks.STATE, desk -> desk.text(0, 1, 5, 1));
        closed.refuses("closed and full, n", Checks.RANGE, desk -> desk.text(0, 1, 5, 0));
    }

    private static void noTurn(Checks checks) {
        withText(checks, 3).takes("turns", desk -> desk.text(0, 1, 5, 1), 0,
                desk -> desk.count(0));
    }
}
