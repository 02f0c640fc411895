/** Promise 13: count. */
public final class CountTest {
    public static void main(String[] args) {
        Checks checks = new Checks();
        nothingAtFirst(checks);
        turns(checks);
        turnsUpToTheLastCall(checks);
        rows(checks);
        subjects(checks);
        openOnes(checks);
        unknownWhat(checks);
        checks.end();
    }

    private static void nothingAtFirst(Checks checks) {
        for (int what = 0; what < 4; what++) {
            int w = what;
            new OnScene(checks, Scene::new).answers("count " + w, 0, desk -> desk.count(w));
        }
    }

    /** "0 turns": of calls alone, those that are refused or fail too. */
    private static void turns(Checks checks) {
        OnScene filled = OnScene.filled(checks);
        filled.answers("turns", 11, desk -> desk.count(0));
        filled.takes("a fine one", desk -> desk.call(1, 0, 1, 0), 12,
                desk -> desk.count(0));
        filled.takes("a failure", desk -> desk.call(1, 0, 4, 0), 12,
                desk -> desk.count(0));
        new OnScene(checks, () -> Scene.filled().call(1, 0, 0, 0).call(1, 0, 1, 1_000_001)
                .call(0, 2, 1, 0)).answers("three refusals", 14, desk -> desk.count(0));
        filled.takes("others are none", desk -> {
            desk.under(4, 3);
            desk.make(0, -1);
            desk.verb(0, 0, 1, 1, 1);
            desk.simulate(0, 0, 0, 0);
            desk.text(0, 0, 1, 1);
            desk.tick(1);
        }, 11, desk -> desk.count(0));
    }

    /** "used for at most 512 calls": the 512th still answers. */
    private static void turnsUpToTheLastCall(Checks checks) {
        Scene scene = new Scene();
        for (int call = 1; call < 512; call++) {
            scene.call(0, 0, 0, 0);
        }
        checks.due("511 turns", 511, () -> scene.desk.count(0));
    }

    /** "1 rows". */
    private static void rows(Checks checks) {
        OnScene filled = OnScene.filled(checks);
        filled.answers("rows", 2, desk -> desk.count(1));
        filled.takes("a failure", desk -> desk.call(1, 0, 4, 0), 3, desk -> desk.count(1));
        filled.takes("a fine one", desk -> desk.call(1, 0, 1, 0), 2,
                desk -> desk.count(1));
    }

    /** "2 subjects": of all kinds, closed ones too. */
    private static void subjects(Checks checks) {
        OnScene filled = OnScene.filled(checks);
        filled.answers("subjects", 8, desk -> desk.count(2));
        filled.takes("one more", desk -> desk.make(5, -1), 9, desk -> desk.count(2));
        filled.takes("one closed", desk -> desk.call(2, 0, 7, 0), 8,
                desk -> desk.count(2));
        ServiceDesk full = new ServiceDesk();
        for (int kind = 0; kind < 8; kind++) {
            for (int number = 0; number < 30; number++) {
                full.make(kind, -1);
            }
        }
        checks.due("all that can be", 240, () -> full.count(2));
        checks.due("all are open", 240, () -> full.count(3));
    }

    /** "3 open ones". */
    private static void openOnes(Checks checks) {
        OnScene filled = OnScene.filled(checks);
        filled.answers("open ones", 6, desk -> desk.count(3));
        filled.takes("one more", desk -> desk.make(5, -1), 7, desk -> desk.count(3));
        filled.takes("one closed", desk -> desk.call(2, 0, 7, 0), 5,
                desk -> desk.count(3));
        new OnScene(checks, () -> new Scene().make(0, -1, 1).make(7, -1, 1).close(0, 0)
                .close(7, 0)).answers("none is left", 0, desk -> desk.count(3));
    }

    /** "Unknown: no such what", 0 .. 3. */
    private static void unknownWhat(Checks checks) {
        int[] wild = {Integer.MIN_VALUE, -1, 4, 5, Integer.MAX_VALUE};
        for (int wrong : wild) {
            OnScene.filled(checks).refuses("what " + wrong, Checks.UNKNOWN,
                    desk -> desk.count(wrong));
        }
    }
}
