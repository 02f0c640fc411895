import java.util.ArrayList;
import java.util.List;

/** All that a scene's desk tells when it is asked, kept so that two desks can be compared. */
final class Sight {
    private static final int[] PROBES = {3, 0};

    /** Verbs are a kind's: two subjects show them, and a desk is to be asked 512 times at most. */
    private static final int PROBED = 2;

    private final ServiceDesk desk;
    private final Scene scene;
    private final List<Integer> kindsAndSubjects = new ArrayList<>();
    private final StringBuilder answers = new StringBuilder();
    private final List<Integer> rows = new ArrayList<>();
    private final int turns;
    private final int book;

    Sight(Scene scene) {
        this.scene = scene;
        this.desk = scene.desk;
        turns = desk.count(0);
        for (int kind = 0; kind < 8; kind++) {
            kindsAndSubjects.add(scene.aboves[kind]);
            int k = kind;
            int number = 0;
            while (number <= 30 && looksAt(kind, number)) {
                number++;
            }
            answers.append(Checks.answerOf(() -> desk.find(k, 0, 0))).append(';');
        }
        for (int i = 0; i < desk.count(1); i++) {
            for (int what = 0; what < 5; what++) {
                rows.add(desk.row(i, what));
            }
        }
        book = desk.book();
    }

    private boolean looksAt(int kind, int number) {
        String above = Checks.answerOf(() -> desk.subject(kind, number, 0));
        if (above.equals(Checks.UNKNOWN.getName())) {
            return false;
        }
        kindsAndSubjects.add(Integer.parseInt(above));
        kindsAndSubjects.add(desk.subject(kind, number, 1));
        kindsAndSubjects.add(desk.subject(kind, number, 2));
        for (int i = 0; i <= 16 && desk.textAt(kind, number, i) >= 0; i++) {
            kindsAndSubjects.add(desk.textAt(kind, number, i));
        }
        answers.append(desk.subject(kind, number, 3)).append(':');
        for (int verb = 0; verb < 8 && number < PROBED; verb++) {
            for (int probe : PROBES) {
                int v = verb;
                answers.append(Checks.answerOf(() -> desk.simulate(kind, number, v, probe)));
                answers.append(',');
            }
        }
        return true;
    }

    /** Kinds, subjects, texts and what their verbs would answer. */
    String world() {
        return kindsAndSubjects + " " + answers + " " + desk.count(2) + " " + desk.count(3);
    }

    /** Turns, rows and the book, which also holds the clock. */
    String told() {
        return turns + " " + rows + " " + book;
    }

    /** What would be told after one more turn that ends in this row and changes nothing. */
    String toldWith(int kind, int subject, int verb, int failure) {
        List<Integer> more = new ArrayList<>(rows);
        more.addAll(List.of(turns + 1, kind, subject, verb, failure));
        List<Integer> all = new ArrayList<>(List.of(scene.clock, turns + 1));
        all.addAll(kindsAndSubjects);
        all.addAll(more);
        return (turns + 1) + " " + more + " " + sumOf(all);
    }

    /** The book's sum of these numbers, worked out in 64 bits and cut to 32. */
    static int sumOf(List<Integer> numbers) {
        long s = 0;
        for (int v : numbers) {
            long mixed = (s ^ v) & 0xFFFF_FFFFL;
            long turned = (mixed << 5 | mixed >> 27) & 0xFFFF_FFFFL;
            s = turned * 0x85EBCA6BL & 0xFFFF_FFFFL;
        }
        return (int) s;
    }
}
