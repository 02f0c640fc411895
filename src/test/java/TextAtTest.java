/** Promise 8: textAt. */
public final class TextAtTest {
    public static void main(String[] args) {
        Checks checks = new Checks();
        eachByte(checks);
        bytesOfAllValues(checks);
        behindTheText(checks);
        unknownKind(checks);
        unknownSubject(checks);
        belowZero(checks);
        unknownBeforeRange(checks);
        checks.end();
    }

    /** "Byte i of a subject's text", of a closed one's too. */
    private static void eachByte(Checks checks) {
        OnScene filled = OnScene.filled(checks);
        int[] full = {255, 255, 255, 255, 255, 255, 255, 254, 0, 0, 0, 0, 0, 0, 0, 3};
        for (int i = 0; i < 16; i++) {
            int at = i;
            filled.answers("byte " + i, full[i], desk -> desk.textAt(1, 1, at));
        }
        filled.answers("a closed one's", 0x43, desk -> desk.textAt(0, 2, 0));
    }

    private static void bytesOfAllValues(Checks checks) {
        int[] values = {0, 1, 127, 128, 255};
        for (int value : values) {
            OnScene one = new OnScene(checks, () -> new Scene().make(0, -1, 1)
                    .text(0, 0, value, 1));
            one.answers("byte " + value, value, desk -> desk.textAt(0, 0, 0));
        }
    }

    /** "-1 behind it". */
    private static void behindTheText(Checks checks) {
        OnScene filled = OnScene.filled(checks);
        filled.answers("the last of two", 0x42, desk -> desk.textAt(0, 0, 1));
        int[] behind = {2, 3, 15, 16, 17, 1_000, Integer.MAX_VALUE};
        for (int i : behind) {
            filled.answers("behind two, " + i, -1, desk -> desk.textAt(0, 0, i));
        }
        int[] behindFull = {16, 17, 32, Integer.MAX_VALUE};
        for (int i : behindFull) {
            filled.answers("behind 16, " + i, -1, desk -> desk.textAt(1, 1, i));
        }
        filled.answers("without a text", -1, desk -> desk.textAt(0, 1, 0));
        OnScene last = new OnScene(checks, () -> new Scene().make(7, -1, 30)
                .text(7, 29, 1, 8).text(7, 29, 2, 8));
        last.answers("the last of all", 2, desk -> desk.textAt(7, 29, 15));
        last.answers("behind the last of all", -1, desk -> desk.textAt(7, 29, 16));
    }

    /** "Unknown: no such kind". */
    private static void unknownKind(Checks checks) {
        OnScene filled = OnScene.filled(checks);
        int[] wild = {Integer.MIN_VALUE, -1, 8, 9, Integer.MAX_VALUE};
        for (int wrong : wild) {
            filled.refuses("kind " + wrong, Checks.UNKNOWN,
                    desk -> desk.textAt(wrong, 0, 0));
        }
        filled.answers("kind 0", 0x41, desk -> desk.textAt(0, 0, 0));
        filled.answers("kind 7", -1, desk -> desk.textAt(7, 0, 0));
    }

    /** "Unknown: no such .. subject". */
    private static void unknownSubject(Checks checks) {
        OnScene filled = OnScene.filled(checks);
        int[] wild = {Integer.MIN_VALUE, -1, 3, 4, 29, 30, Integer.MAX_VALUE};
        for (int wrong : wild) {
            filled.refuses("subject " + wrong, Checks.UNKNOWN,
                    desk -> desk.textAt(0, wrong, 0));
        }
        filled.refuses("of a kind without", Checks.UNKNOWN, desk -> desk.textAt(3, 0, 0));
        OnScene full = new OnScene(checks, () -> new Scene().make(0, -1, 30).make(1, -1, 1)
                .text(0, 29, 65, 1).text(1, 0, 66, 1));
        full.answers("the 30th", 65, desk -> desk.textAt(0, 29, 0));
        full.refuses("behind the 30th", Checks.UNKNOWN, desk -> desk.textAt(0, 30, 0));
        full.refuses("before the first", Checks.UNKNOWN, desk -> desk.textAt(1, -1, 0));
    }

    /** "range: i is below 0". */
    private static void belowZero(Checks checks) {
        OnScene filled = OnScene.filled(checks);
        int[] wild = {-1, -2, -16, Integer.MIN_VALUE};
        for (int wrong : wild) {
            filled.refuses("i " + wrong, Checks.RANGE, desk -> desk.textAt(0, 0, wrong));
            filled.refuses("of a closed one, i " + wrong, Checks.RANGE,
                    desk -> desk.textAt(0, 2, wrong));
            filled.refuses("without a text, i " + wrong, Checks.RANGE,
                    desk -> desk.textAt(0, 1, wrong));
        }
        filled.answers("i 0", 0x41, desk -> desk.textAt(0, 0, 0));
    }

    /** "Refusals, in this order". */
    private static void unknownBeforeRange(Checks checks) {
        OnScene filled = OnScene.filled(checks);
        filled.refuses("kind, i", Checks.UNKNOWN, desk -> desk.textAt(8, 0, -1));
        filled.refuses("kind, i", Checks.UNKNOWN, desk -> desk.textAt(-1, 0, -1));
        filled.refuses("subject, i", Checks.UNKNOWN, desk -> desk.textAt(0, 3, -1));
        filled.refuses("subject, i", Checks.UNKNOWN, desk -> desk.textAt(0, -1, -1));
    }
}
