/** Promise 12: tick. */
public final class TickTest {
    public static void main(String[] args) {
        Checks checks = new Checks();
        timeGoesOn(checks);
        rangeOfN(checks);
        notBeyondItsBound(checks);
        noTurn(checks);
        checks.end();
    }

    /** "Time goes on ..: the clock." */
    private static void timeGoesOn(Checks checks) {
        ServiceDesk desk = new ServiceDesk();
        checks.due("lowest", 1, () -> desk.tick(1));
        checks.due("highest", 100_001, () -> desk.tick(100_000));
        checks.due("some", 100_043, () -> desk.tick(42));
        for (int i = 2; i <= 400; i++) {
            desk.tick(100_000);
        }
        checks.due("far on", 40_100_043, () -> desk.tick(100_000));
    }

    /** "(1 .. 100,000) .. Range: it is not so". */
    private static void rangeOfN(Checks checks) {
        OnScene filled = OnScene.filled(checks);
        int[] wild = {Integer.MIN_VALUE, -100_000, -1, 0, 100_001, 1_000_000_000,
            Integer.MAX_VALUE};
        for (int wrong : wild) {
            filled.refuses("tick " + wrong, Checks.RANGE, desk -> desk.tick(wrong));
            new OnScene(checks, Scene::new).refuses("first tick " + wrong, Checks.RANGE,
                    desk -> desk.tick(wrong));
        }
        filled.takes("lowest", 18, desk -> desk.tick(1));
        filled.takes("highest", 100_017, desk -> desk.tick(100_000));
    }

    /**
     * "or beyond 1,000,000,000". 512 calls do not get there: this goes on behind them, as it is
     * the only way to see the bound.
     */
    private static void notBeyondItsBound(Checks checks) {
        ServiceDesk desk = new ServiceDesk();
        for (int i = 1; i < 10_000; i++) {
            desk.tick(100_000);
        }
        checks.due("near", 999_999_999, () -> desk.tick(99_999));
        int near = desk.book();
        checks.throwing("beyond by 1", Checks.RANGE, () -> desk.tick(2));
        checks.throwing("beyond by far", Checks.RANGE, () -> desk.tick(100_000));
        checks.due("the book is as before", near, desk::book);
        checks.due("at the bound", 1_000_000_000, () -> desk.tick(1));
        int last = desk.book();
        checks.throwing("beyond the bound", Checks.RANGE, () -> desk.tick(1));
        checks.throwing("far beyond the bound", Checks.RANGE, () -> desk.tick(100_000));
        checks.due("the book is as before", last, desk::book);
    }

    private static void noTurn(Checks checks) {
        int turns = Scene.filled().desk.count(0);
        OnScene.filled(checks).takes("turns", desk -> desk.tick(5), turns, desk -> desk.count(0));
    }
}
