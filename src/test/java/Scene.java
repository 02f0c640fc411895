import java.util.Arrays;

/** A desk that is set up step by step, with what no call tells again: kinds' places, the clock. */
final class Scene {
    final ServiceDesk desk = new ServiceDesk();
    final int[] aboves = new int[8];
    int clock;

    Scene() {
        Arrays.fill(aboves, -1);
    }

    Scene under(int kind, int above) {
        desk.under(kind, above);
        aboves[kind] = above;
        return this;
    }

    Scene make(int kind, int above, int times) {
        for (int i = 0; i < times; i++) {
            desk.make(kind, above);
        }
        return this;
    }

    Scene verb(int kind, int verb, int mode, int a, int b) {
        desk.verb(kind, verb, mode, a, b);
        return this;
    }

    /** Verb m of the kind has mode m; verb 0 has none. */
    Scene allModes(int kind) {
        for (int mode = 1; mode < 8; mode++) {
            desk.verb(kind, mode, mode, 3, -2);
        }
        return this;
    }

    /** By verb 2, in two calls, as one argument alone does not reach all sums. */
    Scene sum(int kind, int subject, int sum) {
        desk.verb(kind, 2, 2, 1000, 0);
        desk.call(kind, subject, 2, sum / 1000);
        desk.verb(kind, 2, 2, 1, 0);
        desk.call(kind, subject, 2, sum % 1000);
        return this;
    }

    /** By verb 7. */
    Scene close(int kind, int subject) {
        desk.verb(kind, 7, 7, 0, 0);
        desk.call(kind, subject, 7, 0);
        return this;
    }

    /** Goes on when the call is refused, as a scene may be set up to hold its row. */
    Scene call(int kind, int subject, int verb, int argument) {
        Checks.answerOf(() -> desk.call(kind, subject, verb, argument));
        return this;
    }

    Scene text(int kind, int subject, long bytes, int n) {
        desk.text(kind, subject, bytes, n);
        return this;
    }

    Scene tick(int n) {
        clock = desk.tick(n);
        return this;
    }

    /**
     * Something of all that a refusal could spoil: subjects two kinds deep, open and closed ones,
     * sums, a full text, verbs of all modes, rows and the clock. Kind 0 has subjects 0, 1 and a
     * closed 2; kind 1 has 0 and 1 under 0, and a closed 2; kind 2 has 0 under 1; kind 7 has 0.
     */
    static Scene filled() {
        Scene scene = new Scene().under(1, 0).under(2, 1).under(7, 0).tick(17);
        scene.make(0, -1, 3).make(1, 0, 3).make(2, 1, 1).make(7, 0, 1);
        scene.sum(0, 1, 148).sum(1, 0, -29).sum(1, 2, 5);
        scene.text(0, 0, 0x4142, 2).text(1, 1, -2, 8).text(1, 1, 3, 8).text(0, 2, 0x43, 1);
        scene.close(0, 2).close(1, 2);
        scene.allModes(0).allModes(1).allModes(2).allModes(7);
        return scene.call(1, 1, 6, 7).call(0, 0, 4, 0).call(9, -3, 12, 0);
    }
}
