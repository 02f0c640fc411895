/** Tries calls on desks of one scene, each on a new desk, so that no check leans on another. */
final class OnScene {
    interface Making {
        Scene make();
    }

    interface Question {
        long ask(ServiceDesk desk);
    }

    interface Deed {
        void on(ServiceDesk desk);
    }

    private static final long FAILED = -9_000_000_000_000L;

    private final Checks checks;
    private final Making making;

    OnScene(Checks checks, Making making) {
        this.checks = checks;
        this.making = making;
    }

    static OnScene filled(Checks checks) {
        return new OnScene(checks, Scene::filled);
    }

    /** The call is taken and answers this. */
    void takes(String what, long want, Question question) {
        Scene scene = making.make();
        checks.due(what, want, () -> question.ask(scene.desk));
    }

    /** The call is taken; a question asked behind it answers this. */
    void takes(String what, Deed deed, long want, Question behind) {
        Scene scene = making.make();
        checks.goes(what, () -> deed.on(scene.desk));
        checks.due(what + ", then", want, () -> behind.ask(scene.desk));
    }

    /** The call answers this and leaves the desk as its twin. */
    void answers(String what, long want, Question question) {
        Scene scene = making.make();
        checks.due(what, want, () -> question.ask(scene.desk));
        isAsItsTwin(what, scene);
    }

    /** The call throws this and leaves the desk as its twin. */
    void refuses(String what, Class<? extends RuntimeException> why, Deed deed) {
        Scene scene = making.make();
        checks.throwing(what, why, () -> deed.on(scene.desk));
        isAsItsTwin(what, scene);
    }

    /** call() throws this: a turn and a row more than the twin has, and no other change. */
    void refusesAndTells(String what, Class<? extends RuntimeException> why, int failure,
            int[] call) {
        Scene scene = making.make();
        checks.throwing(what, why, () -> scene.desk.call(call[0], call[1], call[2], call[3]));
        hasOneRowMore(what, scene, call, failure);
    }

    /** call() answers this failure: a turn and a row more than the twin has, no other change. */
    void failsAndTells(String what, int failure, int[] call) {
        Scene scene = making.make();
        checks.due(what, FAILED - failure,
                () -> scene.desk.call(call[0], call[1], call[2], call[3]));
        hasOneRowMore(what, scene, call, failure);
    }

    private void isAsItsTwin(String what, Scene scene) {
        Sight got = new Sight(scene);
        Sight want = new Sight(making.make());
        checks.same(what + ": the world is as before", got.world(), want.world());
        checks.same(what + ": what is told is as before", got.told(), want.told());
    }

    private void hasOneRowMore(String what, Scene scene, int[] call, int failure) {
        Sight got = new Sight(scene);
        Sight want = new Sight(making.make());
        checks.same(what + ": the world is as before", got.world(), want.world());
        checks.same(what + ": a turn and a row", got.told(),
                want.toldWith(call[0], call[1], call[2], failure));
    }
}
