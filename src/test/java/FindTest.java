/** Promise 9: find. */
public final class FindTest {
    private static final int[] NOT_0_TO_8 = {Integer.MIN_VALUE, -1, 9, 16, Integer.MAX_VALUE};

    public static void main(String[] args) {
        Checks checks = new Checks();
        justTheseBytes(checks);
        theLowest(checks);
        onlyOpenOnes(checks);
        withoutAText(checks);
        eightBytesAndMore(checks);
        lengthsOneToEight(checks);
        ofThisKindAlone(checks);
        theLastOfAFullKind(checks);
        unknownKind(checks);
        rangeOfN(checks);
        unknownBeforeRange(checks);
        checks.end();
    }

    /** Kind 0: "", "AB", "ABC", "AB", FF x 8; the second "AB" came in two parts. */
    private static OnScene texts(Checks checks) {
        return new OnScene(checks, () -> new Scene().make(0, -1, 5).make(1, -1, 1)
                .text(0, 1, 0x4142, 2).text(0, 2, 0x414243, 3).text(0, 3, 0x41, 1)
                .text(0, 3, 0x42, 1).text(0, 4, -1, 8));
    }

    /** "whose text is just these n bytes (.. likewise); -1 without one". */
    private static void justTheseBytes(Checks checks) {
        OnScene texts = texts(checks);
        texts.answers("three", 2, desk -> desk.find(0, 0x414243, 3));
        texts.answers("the lowest n bytes alone", 1, desk -> desk.find(0, 0x99_4142L, 2));
        texts.answers("only a part", -1, desk -> desk.find(0, 0x41, 1));
        texts.answers("its end", -1, desk -> desk.find(0, 0x4243, 2));
        texts.answers("another first byte", -1, desk -> desk.find(0, 0x5142, 2));
        texts.answers("another last byte", -1, desk -> desk.find(0, 0x4152, 2));
        texts.answers("the other way round", -1, desk -> desk.find(0, 0x4241, 2));
        texts.answers("with a 0 before", -1, desk -> desk.find(0, 0x4142, 3));
        texts.answers("with a 0 behind", -1, desk -> desk.find(0, 0x414200, 3));
    }

    /** "The lowest open subject". */
    private static void theLowest(Checks checks) {
        texts(checks).answers("of two", 1, desk -> desk.find(0, 0x4142, 2));
        OnScene all = new OnScene(checks, () -> new Scene().make(0, -1, 3)
                .text(0, 2, 65, 1).text(0, 1, 65, 1).text(0, 0, 65, 1));
        all.answers("not the first that had it", 0, desk -> desk.find(0, 65, 1));
    }

    private static void onlyOpenOnes(Checks checks) {
        OnScene one = new OnScene(checks, () -> new Scene().make(0, -1, 3).text(0, 0, 65, 1)
                .text(0, 2, 65, 1).close(0, 0));
        one.answers("the open one", 2, desk -> desk.find(0, 65, 1));
        OnScene none = new OnScene(checks, () -> new Scene().make(0, -1, 2).text(0, 0, 65, 1)
                .close(0, 0).close(0, 1));
        none.answers("closed", -1, desk -> desk.find(0, 65, 1));
        none.answers("closed without a text", -1, desk -> desk.find(0, 0, 0));
    }

    /** "n bytes (0 ..": no text at all. */
    private static void withoutAText(Checks checks) {
        texts(checks).answers("none", 0, desk -> desk.find(0, 0, 0));
        texts(checks).answers("bytes do not matter", 0, desk -> desk.find(0, -1, 0));
        OnScene zero = new OnScene(checks, () -> new Scene().make(0, -1, 2).text(0, 0, 0, 1));
        zero.answers("one byte 0 is a text", 1, desk -> desk.find(0, 0, 0));
        zero.answers("it is found by one byte", 0, desk -> desk.find(0, 0, 1));
        OnScene full = new OnScene(checks, () -> new Scene().make(0, -1, 1)
                .text(0, 0, 0, 8).text(0, 0, 0, 8));
        full.answers("16 bytes 0", -1, desk -> desk.find(0, 0, 0));
    }

    /** ".. 8": a longer text is never found. */
    private static void eightBytesAndMore(Checks checks) {
        OnScene texts = texts(checks);
        texts.answers("eight", 4, desk -> desk.find(0, -1, 8));
        texts.answers("seven of eight", -1, desk -> desk.find(0, -1, 7));
        texts.answers("another highest byte", -1, desk -> desk.find(0, -1L >>> 1, 8));
        OnScene nine = new OnScene(checks, () -> new Scene().make(0, -1, 1)
                .text(0, 0, -1, 8).text(0, 0, -1, 1));
        nine.answers("eight of nine", -1, desk -> desk.find(0, -1, 8));
        OnScene sixteen = new OnScene(checks, () -> new Scene().make(0, -1, 1)
                .text(0, 0, -1, 8).text(0, 0, -1, 8));
        sixteen.answers("eight of sixteen", -1, desk -> desk.find(0, -1, 8));
    }

    private static void lengthsOneToEight(Checks checks) {
        long bytes = 0x81_72_63_54_45_36_27_18L;
        for (int length = 1; length <= 8; length++) {
            int bytesHeld = length;
            OnScene one = new OnScene(checks,
                    () -> new Scene().make(0, -1, 2).text(0, 1, bytes, bytesHeld));
            for (int n = 1; n <= 8; n++) {
                int asked = n;
                one.answers(n + " of " + length, n == length ? 1 : -1,
                        desk -> desk.find(0, bytes, asked));
            }
        }
    }

    private static void ofThisKindAlone(Checks checks) {
        texts(checks).answers("not in another kind", -1, desk -> desk.find(1, 0x4142, 2));
        texts(checks).answers("another kind's", 0, desk -> desk.find(1, 0, 0));
        texts(checks).answers("of a kind without subjects", -1, desk -> desk.find(2, 0, 0));
    }

    private static void theLastOfAFullKind(Checks checks) {
        OnScene full = new OnScene(checks, () -> new Scene().make(0, -1, 30).make(1, -1, 1)
                .text(0, 29, 65, 1).text(1, 0, 66, 1));
        full.answers("the 30th", 29, desk -> desk.find(0, 65, 1));
        full.answers("not the next kind's first", -1, desk -> desk.find(0, 66, 1));
        OnScene last = new OnScene(checks, () -> new Scene().make(7, -1, 30).text(7, 29, 65, 1));
        last.answers("the last of all", 29, desk -> desk.find(7, 65, 1));
        last.answers("none behind it", -1, desk -> desk.find(7, 66, 1));
    }

    /** "Unknown: no such kind". */
    private static void unknownKind(Checks checks) {
        int[] wild = {Integer.MIN_VALUE, -1, 8, 9, Integer.MAX_VALUE};
        OnScene filled = OnScene.filled(checks);
        for (int wrong : wild) {
            filled.refuses("kind " + wrong, Checks.UNKNOWN, desk -> desk.find(wrong, 0, 0));
            filled.refuses("kind " + wrong, Checks.UNKNOWN, desk -> desk.find(wrong, 0, 8));
        }
        filled.answers("kind 0", 1, desk -> desk.find(0, 0, 0));
        filled.answers("kind 7", 0, desk -> desk.find(7, 0, 0));
    }

    /** "range: n", 0 .. 8. */
    private static void rangeOfN(Checks checks) {
        OnScene filled = OnScene.filled(checks);
        for (int wrong : NOT_0_TO_8) {
            filled.refuses("n " + wrong, Checks.RANGE, desk -> desk.find(0, 0, wrong));
            filled.refuses("n " + wrong + " without subjects", Checks.RANGE,
                    desk -> desk.find(3, 0, wrong));
        }
        filled.answers("n 0", 1, desk -> desk.find(0, 0, 0));
        filled.answers("n 8", -1, desk -> desk.find(0, 0, 8));
    }

    /** "Refusals, in this order". */
    private static void unknownBeforeRange(Checks checks) {
        OnScene filled = OnScene.filled(checks);
        for (int wrong : NOT_0_TO_8) {
            filled.refuses("kind 8", Checks.UNKNOWN, desk -> desk.find(8, 0, wrong));
            filled.refuses("kind -1", Checks.UNKNOWN, desk -> desk.find(-1, 0, wrong));
        }
    }
}
