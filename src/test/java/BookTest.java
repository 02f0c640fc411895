import java.util.ArrayList;
import java.util.List;

/** Promise 14: book. */
public final class BookTest {
    public static void main(String[] args) {
        Checks checks = new Checks();
        clockAndTurns(checks);
        kinds(checks);
        subjectsAtTheirKinds(checks);
        sums(checks);
        textBytes(checks);
        closedOnes(checks);
        rows(checks);
        wrapsIn32Bits(checks);
        fullDesk(checks);
        askingChangesNothing(checks);
        checks.end();
    }

    private static void bookIs(Checks checks, Scene scene, int... numbers) {
        List<Integer> all = new ArrayList<>();
        for (int number : numbers) {
            all.add(number);
        }
        checks.due("book of " + all, Sight.sumOf(all), scene.desk::book);
    }

    /** "the clock, turns". */
    private static void clockAndTurns(Checks checks) {
        bookIs(checks, new Scene(), 0, 0, -1, -1, -1, -1, -1, -1, -1, -1);
        bookIs(checks, new Scene().tick(17), 17, 0, -1, -1, -1, -1, -1, -1, -1, -1);
        bookIs(checks, new Scene().tick(17).make(7, -1, 1).verb(7, 0, 1, 1, 1).call(7, 0, 0, 0),
                17, 1, -1, -1, -1, -1, -1, -1, -1, -1, -1, 1, 0);
    }

    /** "of each kind by numbers the kind it is under". */
    private static void kinds(Checks checks) {
        bookIs(checks, new Scene().under(2, 6), 0, 0, -1, -1, 6, -1, -1, -1, -1, -1);
        bookIs(checks, new Scene().under(0, 7).under(7, 1),
                0, 0, 7, -1, -1, -1, -1, -1, -1, 1);
    }

    /** "of each of its subjects by numbers the one it is under (-1), 1 when it is open or 0". */
    private static void subjectsAtTheirKinds(Checks checks) {
        Scene scene = new Scene().under(2, 6).make(6, -1, 2).make(2, 1, 1);
        bookIs(checks, scene, 0, 0, -1, -1, 6, 1, 1, 0, -1, -1, -1, -1, -1, 1, 0, -1, 1, 0, -1);
    }

    /** "its sum": from lowest to highest. */
    private static void sums(Checks checks) {
        int[] sums = {-1_000_000_000, -1, 1, 1_000_000_000};
        for (int sum : sums) {
            bookIs(checks, new Scene().make(0, -1, 1).sum(0, 0, sum),
                    0, 2, -1, -1, 1, sum, -1, -1, -1, -1, -1, -1, -1);
        }
    }

    /** "its text's bytes (0 .. 255)". */
    private static void textBytes(Checks checks) {
        bookIs(checks, new Scene().make(0, -1, 1).text(0, 0, 0x00_01_7F_80_FFL, 5),
                0, 0, -1, -1, 1, 0, 0, 1, 127, 128, 255, -1, -1, -1, -1, -1, -1, -1);
        bookIs(checks, new Scene().make(7, -1, 2).text(7, 0, 0, 1).text(7, 1, -1, 8)
                .text(7, 1, 0, 8), 0, 0, -1, -1, -1, -1, -1, -1, -1, -1, -1, 1, 0, 0,
                -1, 1, 0, 255, 255, 255, 255, 255, 255, 255, 255, 0, 0, 0, 0, 0, 0, 0, 0);
    }

    private static void closedOnes(Checks checks) {
        bookIs(checks, new Scene().make(0, -1, 2).sum(0, 0, 4).text(0, 0, 65, 1).close(0, 0),
                0, 3, -1, -1, 0, 4, 65, -1, 1, 0, -1, -1, -1, -1, -1, -1, -1);
    }

    /** "of each row its five numbers in the order above". */
    private static void rows(Checks checks) {
        bookIs(checks, new Scene().call(99, -5, 3, 0).call(0, Integer.MIN_VALUE, 4, 0),
                0, 2, -1, -1, -1, -1, -1, -1, -1, -1, 1, 99, -5, 3, 13,
                2, 0, Integer.MIN_VALUE, 4, 13);
        bookIs(checks, new Scene().make(0, -1, 1).close(0, 0).call(0, 0, 7, 2),
                0, 2, -1, -1, 0, 0, -1, -1, -1, -1, -1, -1, -1, 2, 0, 0, 7, 15);
    }

    /** "s = rotl(s xor v, 5) * 0x85EBCA6B in 32 bits": sums that the shared test has written. */
    private static void wrapsIn32Bits(Checks checks) {
        checks.due("a new desk", -428131732, new ServiceDesk()::book);
        checks.due("a desk with a row", -1937772203, new Scene().call(0, 0, 0, 0).desk::book);
        checks.due("of 1 alone", 0xBD794D60L, () -> Sight.sumOf(List.of(1)) & 0xFFFF_FFFFL);
    }

    private static void fullDesk(Checks checks) {
        Scene scene = new Scene();
        List<Integer> numbers = new ArrayList<>(List.of(0, 80));
        for (int kind = 0; kind < 8; kind++) {
            scene.make(kind, -1, 30);
            numbers.add(-1);
            for (int subject = 0; subject < 30; subject++) {
                numbers.addAll(List.of(-1, 1, 0));
            }
        }
        for (int turn = 1; turn <= 80; turn++) {
            scene.call(8, turn, 0, 0);
            numbers.addAll(List.of(turn, 8, turn, 0, 13));
        }
        checks.due("a full desk", Sight.sumOf(numbers), scene.desk::book);
    }

    private static void askingChangesNothing(Checks checks) {
        OnScene filled = OnScene.filled(checks);
        int book = Scene.filled().desk.book();
        filled.answers("asked once", book, ServiceDesk::book);
        filled.answers("asked twice", book, desk -> {
            desk.book();
            return desk.book();
        });
        filled.answers("others asked before", book, desk -> {
            desk.textAt(0, 0, 0);
            desk.find(0, 65, 1);
            desk.subject(0, 0, 3);
            desk.row(0, 4);
            desk.count(3);
            desk.simulate(1, 0, 2, 5);
            desk.simulate(1, 0, 7, 5);
            return desk.book();
        });
    }
}
