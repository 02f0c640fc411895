import java.util.ArrayList;
import java.util.Collections;
import java.util.List;

/** Promise 11: row, and of 'Terms' how many are kept. */
public final class RowTest {
    private static final long FAILED = -9_000_000_000_000L;

    public static void main(String[] args) {
        Checks checks = new Checks();
        numbersAsTheyWereCalled(checks);
        everyFailureOfARow(checks);
        unknownRow(checks);
        unknownWhat(checks);
        atMostEighty(checks);
        theLastPlaceIsTaken(checks);
        noMoreAreKept(checks);
        checks.end();
    }

    private static void rowIs(Checks checks, ServiceDesk desk, int row, int... want) {
        for (int what = 0; what < 5; what++) {
            int w = what;
            checks.due("row " + row + " " + w, want[w], () -> desk.row(row, w));
        }
    }

    /** Verb 0 of the only subject fails with kind 3; so many calls have done so. */
    private static Scene failed(int calls) {
        Scene scene = new Scene().make(0, -1, 1).verb(0, 0, 4, 2, 0);
        for (int turn = 1; turn <= calls; turn++) {
            scene.call(0, 0, 0, turn);
        }
        return scene;
    }

    /** "0 the turn, 1 the kind, 2 the subject, 3 the verb (as they were called), 4 the failure". */
    private static void numbersAsTheyWereCalled(Checks checks) {
        ServiceDesk desk = new Scene().make(2, -1, 1).verb(2, 5, 4, 4, 0).verb(2, 6, 1, 0, 0)
                .call(2, 0, 6, 0).call(2, 0, 5, 9)
                .call(-77, Integer.MAX_VALUE, Integer.MIN_VALUE, 9)
                .call(2, 0, 6, 1_000_001).desk;
        rowIs(checks, desk, 0, 2, 2, 0, 5, 5);
        rowIs(checks, desk, 1, 3, -77, Integer.MAX_VALUE, Integer.MIN_VALUE, 13);
        rowIs(checks, desk, 2, 4, 2, 0, 6, 14);
    }

    /** "the failure's kind, 13 for unknown numbers, 14 for a range, 15 for the state". */
    private static void everyFailureOfARow(Checks checks) {
        Scene scene = new Scene().under(1, 0).make(0, -1, 3).make(1, 1, 1).sum(0, 1, 1_000_000_000)
                .close(0, 2).verb(1, 6, 6, 0, 0);
        int turns = scene.desk.count(0);
        for (int a = 0; a < 8; a++) {
            scene.verb(0, 4, 4, a, 0).call(0, 0, 4, 0);
            rowIs(checks, scene.desk, a, turns + 1 + a, 0, 0, 4, 1 + a);
        }
        scene.verb(0, 2, 2, 1, 0).verb(0, 5, 5, 0, 0).verb(0, 6, 6, 0, 0).verb(0, 7, 7, 0, 0);
        scene.call(0, 1, 2, 1).call(1, 0, 6, 1).call(0, 1, 5, 0).call(0, 1, 6, 0).call(0, 1, 7, 0);
        scene.call(0, 1, 8, 0).call(0, 1, 2, 1_000_001).call(0, 2, 2, 0);
        rowIs(checks, scene.desk, 8, turns + 9, 0, 1, 2, 9);
        rowIs(checks, scene.desk, 9, turns + 10, 1, 0, 6, 9);
        rowIs(checks, scene.desk, 10, turns + 11, 0, 1, 5, 10);
        rowIs(checks, scene.desk, 11, turns + 12, 0, 1, 6, 11);
        rowIs(checks, scene.desk, 12, turns + 13, 0, 1, 7, 12);
        rowIs(checks, scene.desk, 13, turns + 14, 0, 1, 8, 13);
        rowIs(checks, scene.desk, 14, turns + 15, 0, 1, 2, 14);
        rowIs(checks, scene.desk, 15, turns + 16, 0, 2, 2, 15);
    }

    /** "Unknown: there is none such": row i, 0 first. */
    private static void unknownRow(Checks checks) {
        int[] wild = {Integer.MIN_VALUE, -1, 3, 4, 79, 80, Integer.MAX_VALUE};
        OnScene three = new OnScene(checks, () -> failed(3));
        for (int wrong : wild) {
            for (int what = 0; what < 5; what++) {
                int w = what;
                three.refuses("row " + wrong, Checks.UNKNOWN, desk -> desk.row(wrong, w));
            }
        }
        three.answers("the first", 1, desk -> desk.row(0, 0));
        three.answers("the last", 3, desk -> desk.row(2, 0));
        OnScene none = new OnScene(checks, () -> failed(0));
        none.refuses("the first of none", Checks.UNKNOWN, desk -> desk.row(0, 0));
    }

    /** "Unknown: .. or no such what", 0 .. 4. */
    private static void unknownWhat(Checks checks) {
        int[] wild = {Integer.MIN_VALUE, -1, 5, 6, Integer.MAX_VALUE};
        OnScene three = new OnScene(checks, () -> failed(3));
        for (int wrong : wild) {
            for (int i = 0; i < 3; i++) {
                int row = i;
                three.refuses("what " + wrong, Checks.UNKNOWN, desk -> desk.row(row, wrong));
            }
        }
        three.answers("the lowest what", 2, desk -> desk.row(1, 0));
        three.answers("the highest what", 3, desk -> desk.row(1, 4));
    }

    /** "(at most 80 ..": counted at 79, at 80, and behind it. */
    private static void atMostEighty(Checks checks) {
        int[] calls = {79, 80, 81, 200};
        int[] rows = {79, 80, 80, 80};
        for (int i = 0; i < calls.length; i++) {
            ServiceDesk desk = failed(calls[i]).desk;
            int want = rows[i];
            int turns = calls[i];
            checks.due("rows", want, () -> desk.count(1));
            checks.due("turns go on", turns, () -> desk.count(0));
            checks.due("the last row's turn", want, () -> desk.row(want - 1, 0));
            checks.throwing("behind the last row", Checks.UNKNOWN, () -> desk.row(want, 0));
        }
    }

    private static void theLastPlaceIsTaken(Checks checks) {
        ServiceDesk desk = failed(79).call(5, 6, 7, 8).desk;
        rowIs(checks, desk, 78, 79, 0, 0, 0, 3);
        rowIs(checks, desk, 79, 80, 5, 6, 7, 13);
        List<Integer> rows = rowsOfFailures(79);
        rows.addAll(List.of(80, 5, 6, 7, 13));
        checks.due("book", bookOf(80, rows), desk::book);
    }

    /** "no more are kept)": refusals and failures go on, the rows stay as they were. */
    private static void noMoreAreKept(Checks checks) {
        ServiceDesk desk = failed(80).desk;
        checks.due("a failure", FAILED - 3, () -> desk.call(0, 0, 0, 0));
        checks.throwing("unknown", Checks.UNKNOWN, () -> desk.call(5, 6, 7, 8));
        checks.throwing("range", Checks.RANGE, () -> desk.call(0, 0, 0, 1_000_001));
        desk.verb(0, 7, 7, 0, 0);
        checks.due("a fine one", 0, () -> desk.call(0, 0, 7, 0));
        checks.throwing("state", Checks.STATE, () -> desk.call(0, 0, 0, 0));
        checks.due("turns", 85, () -> desk.count(0));
        checks.due("rows", 80, () -> desk.count(1));
        rowIs(checks, desk, 0, 1, 0, 0, 0, 3);
        rowIs(checks, desk, 79, 80, 0, 0, 0, 3);
        desk.make(0, -1);
        checks.due("a world that goes on", 1, () -> desk.count(3));
        ServiceDesk open = failed(81).desk;
        checks.due("book", bookOf(81, rowsOfFailures(80)), open::book);
    }

    private static List<Integer> rowsOfFailures(int calls) {
        List<Integer> rows = new ArrayList<>();
        for (int turn = 1; turn <= calls; turn++) {
            rows.addAll(List.of(turn, 0, 0, 0, 3));
        }
        return rows;
    }

    /** The book of a desk whose only subject is the first of kind 0. */
    private static int bookOf(int turns, List<Integer> rows) {
        List<Integer> numbers = new ArrayList<>(List.of(0, turns, -1, -1, 1, 0));
        numbers.addAll(Collections.nCopies(7, -1));
        numbers.addAll(rows);
        return Sight.sumOf(numbers);
    }
}
