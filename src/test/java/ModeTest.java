/** The modes of verbs and the failures, as 'Terms' has them; call() carries them out. */
public final class ModeTest {
    private static final int HIGHEST = 1_000_000_000;
    private static final int FAR = 1_000_000;

    public static void main(String[] args) {
        Checks checks = new Checks();
        tell(checks);
        add(checks);
        addUpToTheHighestSum(checks);
        addDownToTheLowestSum(checks);
        read(checks);
        fail(checks);
        part(checks);
        partByZero(checks);
        pass(checks);
        passOfOneUnderNone(checks);
        passUpToTheHighestSum(checks);
        passDownToTheLowestSum(checks);
        close(checks);
        closeOneWithOpenOnesUnderIt(checks);
        closeOneWithOpenOnesOfAnyKindUnderIt(checks);
        checks.end();
    }

    /** Kind 0 has three subjects, of which the last has this sum, and verb 0 as given. */
    private static OnScene withVerb(Checks checks, int sum, int mode, int a, int b) {
        return new OnScene(checks,
                () -> new Scene().make(0, -1, 3).sum(0, 2, sum).verb(0, 0, mode, a, b));
    }

    /** Subject 0 of kind 1 is under subject 1 of kind 0, which has this sum; verb 0 passes. */
    private static OnScene withOneAbove(Checks checks, int sum) {
        return new OnScene(checks, () -> new Scene().under(1, 0).make(0, -1, 3).sum(0, 1, sum)
                .make(1, 1, 1).sum(1, 0, 4).verb(1, 0, 6, 5, 5).verb(0, 0, 6, 5, 5));
    }

    private static int[] on(int kind, int subject, int argument) {
        return new int[] {kind, subject, 0, argument};
    }

    private static void adds(OnScene scene, long want, int argument) {
        scene.takes("adding " + argument, want, desk -> desk.call(0, 2, 0, argument));
        scene.takes("kept", desk -> desk.call(0, 2, 0, argument), want,
                desk -> desk.subject(0, 2, 2));
    }

    private static void passes(OnScene scene, long want, int argument) {
        scene.takes("passing " + argument, want, desk -> desk.call(1, 0, 0, argument));
        scene.takes("kept above", desk -> desk.call(1, 0, 0, argument), want,
                desk -> desk.subject(0, 1, 2));
        scene.takes("its own sum stays", desk -> desk.call(1, 0, 0, argument), 4,
                desk -> desk.subject(1, 0, 2));
    }

    /** "1 TELL: the answer is a times the subject's number, and b". */
    private static void tell(Checks checks) {
        OnScene some = withVerb(checks, 50, 1, -1000, 7);
        some.takes("of the first", 7, desk -> desk.call(0, 0, 0, FAR));
        some.takes("of the last", -1993, desk -> desk.call(0, 2, 0, -FAR));
        some.takes("the sum stays", desk -> desk.call(0, 2, 0, 3), 50,
                desk -> desk.subject(0, 2, 2));
        OnScene full = new OnScene(checks,
                () -> new Scene().make(0, -1, 30).verb(0, 0, 1, 1000, 1000).verb(0, 1, 1, 0, 0));
        full.takes("of the 30th", 30_000, desk -> desk.call(0, 29, 0, 0));
        full.takes("a and b 0", 0, desk -> desk.call(0, 29, 1, 5));
    }

    /** "2 ADD: the argument times a, and b, are added to the sum: the answer is the sum". */
    private static void add(Checks checks) {
        adds(withVerb(checks, 50, 2, 3, -1), 79, 10);
        adds(withVerb(checks, 50, 2, 3, -1), 43, -2);
        adds(withVerb(checks, 50, 2, 3, -1), 49, 0);
        adds(withVerb(checks, 50, 2, 0, 0), 50, FAR);
        adds(withVerb(checks, -50, 2, -1000, 1000), 999_950, -999);
        withVerb(checks, 50, 2, 3, -1).takes("not another's",
                desk -> desk.call(0, 2, 0, 10), 0, desk -> desk.subject(0, 1, 2));
    }

    /** "of kind 9 when a sum would be above 1,000,000,000". */
    private static void addUpToTheHighestSum(Checks checks) {
        adds(withVerb(checks, 0, 2, 1000, 0), HIGHEST, FAR);
        adds(withVerb(checks, 0, 2, -1000, 0), HIGHEST, -FAR);
        adds(withVerb(checks, HIGHEST - 1, 2, 1, 0), HIGHEST, 1);
        adds(withVerb(checks, HIGHEST - 1, 2, 0, 1), HIGHEST, FAR);
        adds(withVerb(checks, HIGHEST, 2, 1, 1), HIGHEST, -1);
        String above = "above the highest";
        withVerb(checks, 0, 2, 1000, 1).failsAndTells(above, 9, on(0, 2, FAR));
        withVerb(checks, HIGHEST - 1, 2, 1, 0).failsAndTells(above, 9, on(0, 2, 2));
        withVerb(checks, HIGHEST, 2, 0, 1).failsAndTells(above, 9, on(0, 2, 0));
        withVerb(checks, HIGHEST, 2, 1000, 1000).failsAndTells(above, 9, on(0, 2, FAR));
    }

    /** "or below its opposite". */
    private static void addDownToTheLowestSum(Checks checks) {
        adds(withVerb(checks, 0, 2, 1000, 0), -HIGHEST, -FAR);
        adds(withVerb(checks, 0, 2, -1000, 0), -HIGHEST, FAR);
        adds(withVerb(checks, 1 - HIGHEST, 2, 1, 0), -HIGHEST, -1);
        adds(withVerb(checks, 1 - HIGHEST, 2, 0, -1), -HIGHEST, FAR);
        adds(withVerb(checks, -HIGHEST, 2, 1, -1), -HIGHEST, 1);
        String below = "below the lowest";
        withVerb(checks, 0, 2, 1000, -1).failsAndTells(below, 9, on(0, 2, -FAR));
        withVerb(checks, 1 - HIGHEST, 2, 1, 0).failsAndTells(below, 9, on(0, 2, -2));
        withVerb(checks, -HIGHEST, 2, 0, -1).failsAndTells(below, 9, on(0, 2, 0));
        withVerb(checks, -HIGHEST, 2, 1000, -1000).failsAndTells(below, 9, on(0, 2, -FAR));
    }

    /** "3 READ: the sum times a, and b, and the argument": no sum is made, so none is too far. */
    private static void read(Checks checks) {
        withVerb(checks, 0, 3, 1000, 1000).takes("of 0", 1005, desk -> desk.call(0, 2, 0, 5));
        OnScene highest = withVerb(checks, HIGHEST, 3, 1000, 1000);
        highest.takes("highest", 1_000_001_001_000L, desk -> desk.call(0, 2, 0, FAR));
        highest.takes("lower", 999_999_001_000L, desk -> desk.call(0, 2, 0, -FAR));
        highest.takes("the sum stays", desk -> desk.call(0, 2, 0, FAR), HIGHEST,
                desk -> desk.subject(0, 2, 2));
        highest.takes("no row", desk -> desk.call(0, 2, 0, FAR), 0, desk -> desk.count(1));
        withVerb(checks, HIGHEST, 3, -1000, -1000).takes("lowest", -1_000_001_001_000L,
                desk -> desk.call(0, 2, 0, -FAR));
        withVerb(checks, -HIGHEST, 3, 1000, -1000).takes("lowest", -1_000_001_001_000L,
                desk -> desk.call(0, 2, 0, -FAR));
        withVerb(checks, HIGHEST, 3, 1, 0).takes("just above the highest sum", HIGHEST + 1L,
                desk -> desk.call(0, 2, 0, 1));
    }

    /** "4 FAIL: a failure of kind 1 + (a & 7)": 1 .. 8, of a below 0 too. */
    private static void fail(Checks checks) {
        int[] as = {0, 1, 6, 7, 8, 9, 15, 16, 1000, -1, -7, -8, -9, -1000};
        int[] kinds = {1, 2, 7, 8, 1, 2, 8, 1, 1, 8, 2, 1, 8, 1};
        for (int i = 0; i < as.length; i++) {
            withVerb(checks, 50, 4, as[i], 3)
                    .failsAndTells("a is " + as[i], kinds[i], on(0, 2, 4));
        }
    }

    /** "5 PART: the sum over the argument (towards 0), and b". */
    private static void part(Checks checks) {
        OnScene plus = withVerb(checks, 26, 5, 999, 10);
        plus.takes("26 over 3", 18, desk -> desk.call(0, 2, 0, 3));
        plus.takes("26 over -3", 2, desk -> desk.call(0, 2, 0, -3));
        plus.takes("26 over 26", 11, desk -> desk.call(0, 2, 0, 26));
        plus.takes("26 over 27", 10, desk -> desk.call(0, 2, 0, 27));
        plus.takes("26 over -27", 10, desk -> desk.call(0, 2, 0, -27));
        plus.takes("the sum stays", desk -> desk.call(0, 2, 0, 3), 26,
                desk -> desk.subject(0, 2, 2));
        OnScene minus = withVerb(checks, -26, 5, 999, 10);
        minus.takes("-26 over 3", 2, desk -> desk.call(0, 2, 0, 3));
        minus.takes("-26 over -3", 18, desk -> desk.call(0, 2, 0, -3));
        minus.takes("-26 over 27", 10, desk -> desk.call(0, 2, 0, 27));
        OnScene lowest = withVerb(checks, -HIGHEST, 5, 0, -1000);
        lowest.takes("lowest over -1", HIGHEST - 1000, desk -> desk.call(0, 2, 0, -1));
        lowest.takes("lowest over 1", -HIGHEST - 1000, desk -> desk.call(0, 2, 0, 1));
        lowest.takes("lowest over the farthest", -2000, desk -> desk.call(0, 2, 0, FAR));
    }

    /** "of kind 10 when a part is by 0". */
    private static void partByZero(Checks checks) {
        OnScene some = withVerb(checks, 26, 5, 999, 10);
        some.failsAndTells("26 over 0", 10, on(0, 2, 0));
        some.failsAndTells("0 over 0", 10, on(0, 1, 0));
        some.takes("0 over 1", 10, desk -> desk.call(0, 1, 0, 1));
        some.takes("0 over -1", 10, desk -> desk.call(0, 1, 0, -1));
        withVerb(checks, 26, 5, 0, 0).failsAndTells("26 over 0, b is 0", 10, on(0, 2, 0));
    }

    /** "6 PASS: the argument is added to the sum of the subject that it is under .. that sum". */
    private static void pass(Checks checks) {
        OnScene above = withOneAbove(checks, 20);
        passes(above, 520, 500);
        passes(above, -7, -27);
        passes(above, 20, 0);
        passes(above, 1_000_020, FAR);
        above.takes("not another's", desk -> desk.call(1, 0, 0, 9), 0,
                desk -> desk.subject(0, 0, 2));
        OnScene three = new OnScene(checks, () -> new Scene().under(1, 0).under(2, 1)
                .make(0, -1, 1).make(1, 0, 1).make(2, 0, 1).verb(2, 0, 6, 0, 0));
        three.takes("right above", desk -> desk.call(2, 0, 0, 9), 9, desk -> desk.subject(1, 0, 2));
        three.takes("not farther", desk -> desk.call(2, 0, 0, 9), 0, desk -> desk.subject(0, 0, 2));
    }

    /** "(of one that is under none: a failure of kind 11)". */
    private static void passOfOneUnderNone(Checks checks) {
        OnScene above = withOneAbove(checks, 20);
        above.failsAndTells("under none", 11, on(0, 1, 5));
        above.failsAndTells("under none, by 0", 11, on(0, 0, 0));
        withOneAbove(checks, HIGHEST).failsAndTells("not its own sum", 11, on(0, 1, 1));
    }

    /** "of kind 9 when a sum would be above 1,000,000,000": the sum of the one above. */
    private static void passUpToTheHighestSum(Checks checks) {
        passes(withOneAbove(checks, HIGHEST - 1), HIGHEST, 1);
        passes(withOneAbove(checks, HIGHEST), HIGHEST, 0);
        passes(withOneAbove(checks, HIGHEST - FAR), HIGHEST, FAR);
        String above = "above the highest";
        withOneAbove(checks, HIGHEST - 1).failsAndTells(above, 9, on(1, 0, 2));
        withOneAbove(checks, HIGHEST).failsAndTells(above, 9, on(1, 0, 1));
        withOneAbove(checks, HIGHEST).failsAndTells(above, 9, on(1, 0, FAR));
    }

    /** "or below its opposite": the sum of the one above. */
    private static void passDownToTheLowestSum(Checks checks) {
        passes(withOneAbove(checks, 1 - HIGHEST), -HIGHEST, -1);
        passes(withOneAbove(checks, -HIGHEST), -HIGHEST, 0);
        passes(withOneAbove(checks, FAR - HIGHEST), -HIGHEST, -FAR);
        String below = "below the lowest";
        withOneAbove(checks, 1 - HIGHEST).failsAndTells(below, 9, on(1, 0, -2));
        withOneAbove(checks, -HIGHEST).failsAndTells(below, 9, on(1, 0, -1));
        withOneAbove(checks, -HIGHEST).failsAndTells(below, 9, on(1, 0, -FAR));
    }

    /** "7 CLOSE: the subject is closed: the answer is how many of its kind are open". */
    private static void close(Checks checks) {
        OnScene three = new OnScene(checks, () -> new Scene().make(0, -1, 3).make(1, -1, 2)
                .sum(0, 1, 8).text(0, 1, 65, 1).verb(0, 0, 7, 5, 5));
        three.takes("two are left", 2, desk -> desk.call(0, 1, 0, 5));
        three.takes("closed", desk -> desk.call(0, 1, 0, 5), 0, desk -> desk.subject(0, 1, 1));
        three.takes("no other", desk -> desk.call(0, 1, 0, 5), 4, desk -> desk.count(3));
        three.takes("the sum stays", desk -> desk.call(0, 1, 0, 5), 8,
                desk -> desk.subject(0, 1, 2));
        three.takes("the text stays", desk -> desk.call(0, 1, 0, 5), 65,
                desk -> desk.textAt(0, 1, 0));
        new OnScene(checks, () -> new Scene().make(0, -1, 2).close(0, 0))
                .takes("none is left", 0, desk -> desk.call(0, 1, 7, 0));
        new OnScene(checks, () -> new Scene().make(0, -1, 30).verb(0, 0, 7, 0, 0))
                .takes("29 are left", 29, desk -> desk.call(0, 29, 0, 0));
    }

    /** "of kind 12 when a subject to be closed has open ones under it". */
    private static void closeOneWithOpenOnesUnderIt(Checks checks) {
        OnScene one = new OnScene(checks, () -> new Scene().under(1, 0).make(0, -1, 3)
                .make(1, 1, 2).verb(0, 0, 7, 0, 0).close(1, 0));
        one.failsAndTells("one of two is open", 12, on(0, 1, 0));
        one.takes("the one before it", 2, desk -> desk.call(0, 0, 0, 0));
        one.takes("the one behind it", 2, desk -> desk.call(0, 2, 0, 0));
        one.takes("the one under it", 0, desk -> desk.call(1, 1, 7, 0));
        OnScene closed = new OnScene(checks, () -> new Scene().under(1, 0).make(0, -1, 3)
                .make(1, 1, 2).verb(0, 0, 7, 0, 0).close(1, 0).close(1, 1));
        closed.takes("closed ones under it", 2, desk -> desk.call(0, 1, 0, 0));
    }

    private static void closeOneWithOpenOnesOfAnyKindUnderIt(Checks checks) {
        for (int kind = 0; kind < 8; kind++) {
            int k = kind;
            if (k != 3) {
                OnScene one = new OnScene(checks, () -> new Scene().under(k, 3).make(3, -1, 2)
                        .make(k, 0, 1).verb(3, 0, 7, 0, 0));
                one.failsAndTells("one of kind " + k, 12, on(3, 0, 0));
                one.takes("beside it", 1, desk -> desk.call(3, 1, 0, 0));
            }
        }
        OnScene full = new OnScene(checks, () -> new Scene().under(7, 3).make(3, -1, 30)
                .make(7, 29, 30).verb(3, 0, 7, 0, 0));
        full.failsAndTells("the last with 30 under it", 12, on(3, 29, 0));
        OnScene apart = new OnScene(checks, () -> new Scene().make(3, -1, 1).make(4, -1, 1)
                .verb(3, 0, 7, 0, 0));
        apart.takes("one of a kind that is not under its kind", 0,
                desk -> desk.call(3, 0, 0, 0));
    }
}
