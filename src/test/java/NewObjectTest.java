import java.util.ArrayList;
import java.util.Collections;
import java.util.List;

/** Promise 1: a new object. */
public final class NewObjectTest {
    public static void main(String[] args) {
        Checks checks = new Checks();
        noSubjects(checks);
        noTurnsNoRowsNoTime(checks);
        kindsAreUnderNone(checks);
        verbsHaveNoModes(checks);
        objectsAreApart(checks);
        checks.end();
    }

    /** "No subjects". */
    private static void noSubjects(Checks checks) {
        OnScene fresh = new OnScene(checks, Scene::new);
        fresh.answers("subjects", 0, desk -> desk.count(2));
        fresh.answers("open ones", 0, desk -> desk.count(3));
        for (int kind = 0; kind < 8; kind++) {
            int k = kind;
            fresh.answers("find in " + k, -1, desk -> desk.find(k, 0, 0));
            fresh.refuses("subject of " + k, Checks.UNKNOWN, desk -> desk.subject(k, 0, 0));
            fresh.refuses("text of " + k, Checks.UNKNOWN, desk -> desk.text(k, 0, 0, 1));
            fresh.refuses("textAt of " + k, Checks.UNKNOWN, desk -> desk.textAt(k, 0, 0));
            fresh.takes("the first of " + k, 0, desk -> desk.make(k, -1));
        }
    }

    private static void noTurnsNoRowsNoTime(Checks checks) {
        OnScene fresh = new OnScene(checks, Scene::new);
        fresh.answers("turns", 0, desk -> desk.count(0));
        fresh.answers("rows", 0, desk -> desk.count(1));
        fresh.refuses("row 0", Checks.UNKNOWN, desk -> desk.row(0, 0));
        fresh.takes("the clock from 0", 1, desk -> desk.tick(1));
    }

    /** "kinds are under none". */
    private static void kindsAreUnderNone(Checks checks) {
        List<Integer> numbers = new ArrayList<>(List.of(0, 0));
        numbers.addAll(Collections.nCopies(8, -1));
        OnScene fresh = new OnScene(checks, Scene::new);
        fresh.answers("the book", Sight.sumOf(numbers), ServiceDesk::book);
        fresh.answers("the book as the shared test has it", -428131732, ServiceDesk::book);
        OnScene one = new OnScene(checks, () -> new Scene().make(3, -1, 1));
        for (int kind = 0; kind < 8; kind++) {
            int k = kind;
            one.refuses(k + " under 0", Checks.UNKNOWN, desk -> desk.make(k, 0));
            one.takes(k + " under none", desk -> desk.make(k, -1), -1,
                    desk -> desk.subject(k, 0, 0));
        }
    }

    /** "verbs without modes". */
    private static void verbsHaveNoModes(Checks checks) {
        ServiceDesk desk = new ServiceDesk();
        for (int kind = 0; kind < 8; kind++) {
            desk.make(kind, -1);
            for (int verb = 0; verb < 8; verb++) {
                int k = kind;
                int v = verb;
                checks.throwing("simulate " + k + " " + v, Checks.UNKNOWN,
                        () -> desk.simulate(k, 0, v, 0));
            }
        }
    }

    private static void objectsAreApart(Checks checks) {
        Scene.filled();
        OnScene fresh = new OnScene(checks, Scene::new);
        fresh.answers("the book beside a filled desk", -428131732, ServiceDesk::book);
        fresh.takes("its first", 0, desk -> desk.make(1, -1));
    }
}
