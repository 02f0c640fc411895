/** Promise 10: subject. */
public final class SubjectTest {
    public static void main(String[] args) {
        Checks checks = new Checks();
        theOneItIsUnder(checks);
        whetherItIsOpen(checks);
        itsSum(checks);
        openOnesRightUnder(checks);
        openOnesOfAllKindsUnderItsKind(checks);
        openOnesOfFullKinds(checks);
        unknownKind(checks);
        unknownSubject(checks);
        unknownWhat(checks);
        checks.end();
    }

    /** "0 the one it is under (-1)". */
    private static void theOneItIsUnder(Checks checks) {
        OnScene filled = OnScene.filled(checks);
        filled.answers("under none", -1, desk -> desk.subject(0, 1, 0));
        filled.answers("under the first", 0, desk -> desk.subject(1, 1, 0));
        filled.answers("under another", 1, desk -> desk.subject(2, 0, 0));
        filled.answers("a closed one", 0, desk -> desk.subject(1, 2, 0));
        OnScene last = new OnScene(checks,
                () -> new Scene().under(7, 6).make(6, -1, 30).make(7, 29, 1));
        last.answers("under the 30th", 29, desk -> desk.subject(7, 0, 0));
    }

    /** "1 whether it is open (1, 0)". */
    private static void whetherItIsOpen(Checks checks) {
        OnScene filled = OnScene.filled(checks);
        filled.answers("open", 1, desk -> desk.subject(0, 1, 1));
        filled.answers("closed", 0, desk -> desk.subject(0, 2, 1));
    }

    /** "2 its sum". */
    private static void itsSum(Checks checks) {
        OnScene filled = OnScene.filled(checks);
        filled.answers("at first", 0, desk -> desk.subject(2, 0, 2));
        filled.answers("above 0", 148, desk -> desk.subject(0, 1, 2));
        filled.answers("below 0", -29, desk -> desk.subject(1, 0, 2));
        filled.answers("passed", 7, desk -> desk.subject(0, 0, 2));
        filled.answers("a closed one's", 5, desk -> desk.subject(1, 2, 2));
        int[] ends = {1_000_000_000, -1_000_000_000};
        for (int end : ends) {
            new OnScene(checks, () -> new Scene().make(0, -1, 1).sum(0, 0, end))
                    .answers("sum " + end, end, desk -> desk.subject(0, 0, 2));
        }
    }

    /** "3 open ones right under it": not those that are closed, nor those farther below. */
    private static void openOnesRightUnder(Checks checks) {
        OnScene filled = OnScene.filled(checks);
        filled.answers("two of one kind, one of another", 3,
                desk -> desk.subject(0, 0, 3));
        filled.answers("none", 0, desk -> desk.subject(0, 1, 3));
        filled.answers("of a closed one", 0, desk -> desk.subject(0, 2, 3));
        filled.answers("in the middle", 1, desk -> desk.subject(1, 1, 3));
        filled.answers("at the end", 0, desk -> desk.subject(2, 0, 3));
        OnScene closed = new OnScene(checks, () -> Scene.filled().close(1, 0).close(7, 0));
        closed.answers("one is left", 1, desk -> desk.subject(0, 0, 3));
    }

    /** "(of all kinds under its kind)". */
    private static void openOnesOfAllKindsUnderItsKind(Checks checks) {
        OnScene seven = new OnScene(checks, () -> {
            Scene scene = new Scene().make(3, -1, 2);
            for (int kind = 0; kind < 8; kind++) {
                if (kind != 3) {
                    scene.under(kind, 3).make(kind, 1, 2).make(kind, 0, 1);
                }
            }
            return scene;
        });
        seven.answers("two of each of seven", 14, desk -> desk.subject(3, 1, 3));
        seven.answers("one of each of seven", 7, desk -> desk.subject(3, 0, 3));
        OnScene apart = new OnScene(checks, () -> new Scene().make(3, -1, 1).make(4, -1, 3));
        apart.answers("none of a kind beside it", 0, desk -> desk.subject(3, 0, 3));
    }

    private static void openOnesOfFullKinds(Checks checks) {
        OnScene full = new OnScene(checks, () -> new Scene().under(0, 3).under(7, 3)
                .make(3, -1, 30).make(0, 29, 1).make(7, 29, 30));
        full.answers("31 under the 30th", 31, desk -> desk.subject(3, 29, 3));
        full.answers("none under the first", 0, desk -> desk.subject(3, 0, 3));
    }

    /** "Unknown: no such kind". */
    private static void unknownKind(Checks checks) {
        OnScene filled = OnScene.filled(checks);
        int[] wild = {Integer.MIN_VALUE, -1, 8, 9, Integer.MAX_VALUE};
        for (int wrong : wild) {
            for (int what = 0; what < 4; what++) {
                int w = what;
                filled.refuses("kind " + wrong, Checks.UNKNOWN,
                        desk -> desk.subject(wrong, 0, w));
            }
        }
        filled.answers("kind 7", 1, desk -> desk.subject(7, 0, 1));
        filled.refuses("kind 6, without", Checks.UNKNOWN, desk -> desk.subject(6, 0, 1));
    }

    /** "Unknown: no such .. subject". */
    private static void unknownSubject(Checks checks) {
        int[] wild = {Integer.MIN_VALUE, -1, 3, 4, 29, 30, Integer.MAX_VALUE};
        for (int wrong : wild) {
            for (int what = 0; what < 4; what++) {
                int w = what;
                OnScene.filled(checks).refuses("subject " + wrong, Checks.UNKNOWN,
                        desk -> desk.subject(1, wrong, w));
            }
        }
        OnScene full = new OnScene(checks, () -> new Scene().make(0, -1, 30).make(1, -1, 1));
        full.answers("the 30th", 1, desk -> desk.subject(0, 29, 1));
        full.refuses("behind the 30th", Checks.UNKNOWN, desk -> desk.subject(0, 30, 1));
        full.refuses("before the first", Checks.UNKNOWN, desk -> desk.subject(1, -1, 1));
    }

    /** "Unknown: no such .. what", 0 .. 3. */
    private static void unknownWhat(Checks checks) {
        OnScene filled = OnScene.filled(checks);
        int[] wild = {Integer.MIN_VALUE, -1, 4, 5, Integer.MAX_VALUE};
        for (int wrong : wild) {
            filled.refuses("what " + wrong, Checks.UNKNOWN,
                    desk -> desk.subject(1, 0, wrong));
        }
        filled.answers("what 0", 0, desk -> desk.subject(1, 0, 0));
        filled.answers("what 3", 0, desk -> desk.subject(1, 0, 3));
    }
}
