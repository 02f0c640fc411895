/** Promise 3: make. */
public final class MakeTest {
    private static final int[] NO_KINDS = {Integer.MIN_VALUE, -1, 8, 30, Integer.MAX_VALUE};

    public static void main(String[] args) {
        Checks checks = new Checks();
        numbersInOrder(checks);
        numbersAreNeverGivenTwice(checks);
        asNewAsTheFirst(checks);
        unknownKind(checks);
        underNone(checks);
        underOneOfTheKindAbove(checks);
        underAClosedOne(checks);
        thirtyOfAKind(checks);
        thirtyOfEachKind(checks);
        unknownBeforeNoRoom(checks);
        stateBeforeNoRoom(checks);
        checks.end();
    }

    /** "One more subject ..: its number": 0, 1, .. of each kind. */
    private static void numbersInOrder(Checks checks) {
        for (int kind = 0; kind < 8; kind += 7) {
            int k = kind;
            new OnScene(checks, () -> new Scene().make(3, -1, 5))
                    .takes("the first", 0, desk -> desk.make(k, -1));
            new OnScene(checks, () -> new Scene().make(3, -1, 5).make(k, -1, 1))
                    .takes("the second", 1, desk -> desk.make(k, -1));
        }
    }

    /** "never given twice". */
    private static void numbersAreNeverGivenTwice(Checks checks) {
        OnScene closed = new OnScene(checks, () -> new Scene().make(0, -1, 2).close(0, 1));
        closed.takes("behind a closed one", 2, desk -> desk.make(0, -1));
        closed.takes("the closed one stays", desk -> desk.make(0, -1), 0,
                desk -> desk.subject(0, 1, 1));
        OnScene allClosed = new OnScene(checks,
                () -> new Scene().make(0, -1, 2).close(0, 1).close(0, 0));
        allClosed.takes("behind closed ones alone", 2, desk -> desk.make(0, -1));
    }

    /** "OPEN until they are CLOSED, have a SUM (0 at first) and a TEXT (.. none at first)". */
    private static void asNewAsTheFirst(Checks checks) {
        OnScene used = new OnScene(checks, () -> new Scene().make(0, -1, 1).sum(0, 0, 9)
                .text(0, 0, -1, 8).text(0, 0, -1, 8).close(0, 0));
        used.takes("open", desk -> desk.make(0, -1), 1, desk -> desk.subject(0, 1, 1));
        used.takes("sum", desk -> desk.make(0, -1), 0, desk -> desk.subject(0, 1, 2));
        used.takes("text", desk -> desk.make(0, -1), -1, desk -> desk.textAt(0, 1, 0));
        used.takes("found without text", desk -> desk.make(0, -1), 1, desk -> desk.find(0, 0, 0));
        used.takes("none under it", desk -> desk.make(0, -1), 0, desk -> desk.subject(0, 1, 3));
    }

    /** "Unknown: no such kind". */
    private static void unknownKind(Checks checks) {
        OnScene filled = OnScene.filled(checks);
        for (int wrong : NO_KINDS) {
            filled.refuses("kind " + wrong, Checks.UNKNOWN, desk -> desk.make(wrong, -1));
            filled.refuses("kind " + wrong + " under 0", Checks.UNKNOWN,
                    desk -> desk.make(wrong, 0));
        }
    }

    /** "(-1 when that is none)": any other is no such subject to be under. */
    private static void underNone(Checks checks) {
        OnScene filled = OnScene.filled(checks);
        filled.takes("-1", desk -> desk.make(0, -1), -1, desk -> desk.subject(0, 3, 0));
        int[] wild = {Integer.MIN_VALUE, -2, 0, 1, 2, 3, 30, Integer.MAX_VALUE};
        for (int wrong : wild) {
            filled.refuses("0 under " + wrong, Checks.UNKNOWN, desk -> desk.make(0, wrong));
            filled.refuses("3 under " + wrong, Checks.UNKNOWN, desk -> desk.make(3, wrong));
        }
    }

    /** "under one of the kind that its is under .. Unknown: .. no such subject to be under". */
    private static void underOneOfTheKindAbove(Checks checks) {
        OnScene empty = new OnScene(checks, () -> new Scene().under(5, 6).make(4, -1, 2));
        empty.refuses("none to be under", Checks.UNKNOWN, desk -> desk.make(5, 0));
        OnScene three = new OnScene(checks,
                () -> new Scene().under(5, 6).make(6, -1, 3).make(7, -1, 9).make(4, -1, 9));
        for (int above = 0; above < 3; above++) {
            int a = above;
            three.takes("under " + a, desk -> desk.make(5, a), a, desk -> desk.subject(5, 0, 0));
        }
        int[] wild = {Integer.MIN_VALUE, -2, -1, 3, 4, 8, 30, Integer.MAX_VALUE};
        for (int wrong : wild) {
            three.refuses("under " + wrong, Checks.UNKNOWN, desk -> desk.make(5, wrong));
        }
        OnScene full = new OnScene(checks,
                () -> new Scene().under(0, 6).make(6, -1, 30).make(7, -1, 1));
        full.takes("under the last", desk -> desk.make(0, 29), 29, desk -> desk.subject(0, 0, 0));
        full.refuses("behind the last", Checks.UNKNOWN, desk -> desk.make(0, 30));
    }

    /** "state: that one is closed". */
    private static void underAClosedOne(Checks checks) {
        OnScene three = new OnScene(checks, () -> new Scene().under(1, 0).make(0, -1, 3)
                .make(1, 1, 1).close(1, 0).close(0, 1));
        three.refuses("under the closed one", Checks.STATE, desk -> desk.make(1, 1));
        three.takes("under the one before it", 1, desk -> desk.make(1, 0));
        three.takes("under the one behind it", 1, desk -> desk.make(1, 2));
        three.takes("beside it", 3, desk -> desk.make(0, -1));
    }

    /** "no room: there are 30". */
    private static void thirtyOfAKind(Checks checks) {
        OnScene room = new OnScene(checks, () -> new Scene().make(3, -1, 29).make(4, -1, 1));
        room.takes("the 30th", 29, desk -> desk.make(3, -1));
        OnScene full = new OnScene(checks, () -> new Scene().make(3, -1, 30).make(4, -1, 1));
        full.refuses("the 31st", Checks.NO_ROOM, desk -> desk.make(3, -1));
        full.takes("another kind's", 1, desk -> desk.make(4, -1));
        OnScene closed = new OnScene(checks, () -> new Scene().make(3, -1, 30).close(3, 29));
        closed.refuses("closing makes no room", Checks.NO_ROOM, desk -> desk.make(3, -1));
        OnScene under = new OnScene(checks,
                () -> new Scene().under(1, 0).make(0, -1, 2).make(1, 0, 29).make(1, 1, 1));
        under.refuses("30 under two", Checks.NO_ROOM, desk -> desk.make(1, 1));
    }

    private static void thirtyOfEachKind(Checks checks) {
        ServiceDesk desk = new ServiceDesk();
        for (int kind = 0; kind < 8; kind++) {
            int k = kind;
            for (int number = 0; number < 30; number++) {
                checks.due("make " + k, number, () -> desk.make(k, -1));
            }
            checks.throwing("the 31st of " + k, Checks.NO_ROOM, () -> desk.make(k, -1));
        }
        checks.due("made", 240, () -> desk.count(2));
        checks.due("open", 240, () -> desk.count(3));
    }

    /** "Refusals, in this order". */
    private static void unknownBeforeNoRoom(Checks checks) {
        OnScene full = new OnScene(checks,
                () -> new Scene().under(1, 0).make(0, -1, 1).make(1, 0, 30).make(2, -1, 30));
        full.refuses("no such one above", Checks.UNKNOWN, desk -> desk.make(1, 1));
        full.refuses("not under none", Checks.UNKNOWN, desk -> desk.make(1, -1));
        full.refuses("only under none", Checks.UNKNOWN, desk -> desk.make(2, 0));
        full.refuses("no room", Checks.NO_ROOM, desk -> desk.make(1, 0));
    }

    /** "Refusals, in this order". */
    private static void stateBeforeNoRoom(Checks checks) {
        OnScene full = new OnScene(checks, () -> new Scene().under(1, 0).make(0, -1, 2)
                .make(1, 0, 30).close(0, 1));
        full.refuses("closed above", Checks.STATE, desk -> desk.make(1, 1));
        full.refuses("open above", Checks.NO_ROOM, desk -> desk.make(1, 0));
    }
}
