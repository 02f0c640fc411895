/** Promise 2: under. */
public final class UnderTest {
    private static final int[] NO_KINDS = {Integer.MIN_VALUE, -2, 8, 9, Integer.MAX_VALUE};

    public static void main(String[] args) {
        Checks checks = new Checks();
        underAnotherOrNone(checks);
        unknownKind(checks);
        unknownKindAbove(checks);
        withSubjects(checks);
        subjectsOfOtherKindsDoNotMatter(checks);
        underItself(checks);
        underItselfByWayOfOthers(checks);
        onAWayUpAgain(checks);
        unknownBeforeState(checks);
        checks.end();
    }

    /** Eight kinds in one line: each is under the next. */
    private static Scene line() {
        Scene scene = new Scene().tick(3);
        for (int kind = 0; kind < 7; kind++) {
            scene.under(kind, kind + 1);
        }
        return scene;
    }

    private static int bookOf(Scene scene) {
        return scene.desk.book();
    }

    /** "A kind is under another one (-1: none)." */
    private static void underAnotherOrNone(Checks checks) {
        OnScene fresh = new OnScene(checks, Scene::new);
        int firstUnderLast = bookOf(new Scene().under(0, 7));
        int plain = bookOf(new Scene());
        checks.due("the book tells it", 1, () -> firstUnderLast == plain ? 0 : 1);
        fresh.takes("0 under 7, by way of 3", desk -> {
            desk.under(0, 3);
            desk.under(0, 7);
        }, firstUnderLast, ServiceDesk::book);
        fresh.takes("0 under 7 and under none", desk -> {
            desk.under(0, 7);
            desk.under(0, -1);
        }, plain, ServiceDesk::book);
        fresh.takes("7 under 0", desk -> desk.under(7, 0), 0, desk -> {
            desk.make(0, -1);
            return desk.make(7, 0);
        });
        fresh.takes("under none as before", desk -> desk.under(7, -1), plain, ServiceDesk::book);
        OnScene line = new OnScene(checks, UnderTest::line);
        line.takes("under the same again", desk -> desk.under(0, 1), bookOf(line()),
                ServiceDesk::book);
    }

    /** "Unknown: no such kinds": kinds are 0 .. 7. */
    private static void unknownKind(Checks checks) {
        OnScene filled = OnScene.filled(checks);
        for (int wrong : NO_KINDS) {
            filled.refuses("kind " + wrong, Checks.UNKNOWN, desk -> desk.under(wrong, 3));
            filled.refuses("none " + wrong, Checks.UNKNOWN, desk -> desk.under(wrong, -1));
        }
        filled.refuses("kind -1", Checks.UNKNOWN, desk -> desk.under(-1, 3));
        filled.refuses("none -1", Checks.UNKNOWN, desk -> desk.under(-1, -1));
    }

    /** "Unknown: no such kinds": the one above is 0 .. 7, or -1. */
    private static void unknownKindAbove(Checks checks) {
        OnScene filled = OnScene.filled(checks);
        for (int wrong : NO_KINDS) {
            filled.refuses("above " + wrong, Checks.UNKNOWN, desk -> desk.under(3, wrong));
        }
        for (int above = -1; above < 8; above++) {
            int a = above;
            if (a != 3) {
                filled.takes("3 under " + a, desk -> desk.under(3, a), a == -1 ? 1 : 0,
                        desk -> desk.book() == bookOf(Scene.filled()) ? 1 : 0);
            }
        }
    }

    /** "state: it has subjects". */
    private static void withSubjects(Checks checks) {
        OnScene none = new OnScene(checks, () -> new Scene().under(1, 0).make(0, -1, 1));
        none.takes("without subjects", desk -> desk.under(1, -1), 0, desk -> desk.make(1, -1));
        int[] numbers = {1, 2, 30};
        for (int many : numbers) {
            OnScene some = new OnScene(checks,
                    () -> new Scene().under(1, 0).make(0, -1, 1).make(1, 0, many));
            some.refuses("with " + many, Checks.STATE, desk -> desk.under(1, 2));
            some.refuses("with " + many + ", none", Checks.STATE, desk -> desk.under(1, -1));
            some.refuses("with " + many + ", the same", Checks.STATE, desk -> desk.under(1, 0));
        }
        OnScene closed = new OnScene(checks, () -> new Scene().make(1, -1, 1).close(1, 0));
        closed.refuses("with a closed one", Checks.STATE, desk -> desk.under(1, 2));
        closed.refuses("with a closed one, none", Checks.STATE, desk -> desk.under(1, -1));
    }

    private static void subjectsOfOtherKindsDoNotMatter(Checks checks) {
        OnScene full = new OnScene(checks, () -> new Scene().make(0, -1, 30).make(2, -1, 30));
        full.takes("1 under 0, between full kinds", desk -> desk.under(1, 0), 0,
                desk -> desk.make(1, 29));
        full.takes("7 under 2", desk -> desk.under(7, 2), 0, desk -> desk.make(7, 0));
    }

    /** "state: .. or would be under itself". */
    private static void underItself(Checks checks) {
        OnScene fresh = new OnScene(checks, Scene::new);
        OnScene line = new OnScene(checks, UnderTest::line);
        for (int kind = 0; kind < 8; kind++) {
            int k = kind;
            fresh.refuses(k + " under itself", Checks.STATE, desk -> desk.under(k, k));
            line.refuses(k + " of the line under itself", Checks.STATE, desk -> desk.under(k, k));
        }
    }

    /** "also by way of others": by one other up to by all seven. */
    private static void underItselfByWayOfOthers(Checks checks) {
        OnScene line = new OnScene(checks, UnderTest::line);
        for (int kind = 1; kind < 8; kind++) {
            for (int below = 0; below < kind; below++) {
                int k = kind;
                int b = below;
                line.refuses(k + " under " + b, Checks.STATE, desk -> desk.under(k, b));
            }
        }
        OnScene downwards = new OnScene(checks, () -> new Scene().under(2, 1).under(1, 0));
        downwards.refuses("0 under 2 by way of 1", Checks.STATE, desk -> desk.under(0, 2));
        downwards.refuses("0 under 1", Checks.STATE, desk -> desk.under(0, 1));
    }

    /** The other side of that bound: no way leads back to the kind. */
    private static void onAWayUpAgain(Checks checks) {
        OnScene line = new OnScene(checks, UnderTest::line);
        line.takes("2 under 5, farther up its own line", desk -> desk.under(2, 5), 1, desk -> {
            desk.make(7, -1);
            desk.make(6, 0);
            desk.make(5, 0);
            desk.make(2, 0);
            return desk.subject(5, 0, 3);
        });
        line.takes("0 under 7", desk -> desk.under(0, 7), 0, desk -> {
            desk.make(7, -1);
            return desk.make(0, 0);
        });
        line.takes("7 under 0 when the line is cut", desk -> {
            desk.under(3, -1);
            desk.under(7, 0);
        }, 0, desk -> desk.make(3, -1));
        OnScene two = new OnScene(checks, () -> new Scene().under(1, 0).under(2, 0));
        two.takes("one beside the other", desk -> desk.under(1, 2), 0, desk -> {
            desk.make(0, -1);
            desk.make(2, 0);
            return desk.make(1, 0);
        });
    }

    /** "Refusals, in this order". */
    private static void unknownBeforeState(Checks checks) {
        OnScene filled = OnScene.filled(checks);
        filled.refuses("above 8 of one with subjects", Checks.UNKNOWN, desk -> desk.under(0, 8));
        filled.refuses("above -2 of one with subjects", Checks.UNKNOWN, desk -> desk.under(0, -2));
        filled.refuses("8 under itself", Checks.UNKNOWN, desk -> desk.under(8, 8));
        filled.refuses("-1 under itself", Checks.UNKNOWN, desk -> desk.under(-1, -1));
    }
}
