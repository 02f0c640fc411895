import java.util.Arrays;

/**
 * The desk over all parts of a rescue service: subjects of kinds, calls by verbs that go to a
 * table of answers in place of the parts, told rows, a clock, and a sum of the whole book.
 */
public final class ServiceDesk {
    private static final int NONE = -1;

    private static final int KINDS = 8;
    private static final int VERBS = 8;
    private static final int MODES = 8;
    private static final int MOST_SUBJECTS = 30;
    private static final int SLOTS = KINDS * MOST_SUBJECTS;
    private static final int MOST_TEXT = 16;
    private static final int MOST_BYTES_AT_ONCE = 8;
    private static final int MOST_ROWS = 80;
    private static final int ROW_NUMBERS = 5;

    private static final int MOST_FACTOR = 1_000;
    private static final int MOST_ARGUMENT = 1_000_000;
    private static final int MOST_SUM = 1_000_000_000;
    private static final int MOST_TICK = 100_000;
    private static final int MOST_CLOCK = 1_000_000_000;

    private static final int MODE_NONE = 0;
    private static final int MODE_TELL = 1;
    private static final int MODE_ADD = 2;
    private static final int MODE_READ = 3;
    private static final int MODE_FAIL = 4;
    private static final int MODE_PART = 5;
    private static final int MODE_PASS = 6;
    private static final int MODE_CLOSE = 7;

    private static final int FINE = 0;
    private static final int SUM_TOO_FAR = 9;
    private static final int PART_BY_ZERO = 10;
    private static final int UNDER_NONE = 11;
    private static final int OPEN_ONES_UNDER = 12;
    private static final int UNKNOWN = 13;
    private static final int OUT_OF_RANGE = 14;
    private static final int CLOSED = 15;

    /** Far below what any verb answers, so that an answer below it can only be a failure. */
    private static final long FAILED = -9_000_000_000_000L;

    private final int[] kindAbove = new int[KINDS];
    private final Verbs verbs = new Verbs();
    private final Subjects subjects = new Subjects();
    private final Rows rows = new Rows();
    private int clock;
    private int turns;

    public ServiceDesk() {
        Arrays.fill(kindAbove, NONE);
    }

    public void under(int kind, int above) throws IllegalArgumentException, IllegalStateException {
        if (!isKind(kind) || (above != NONE && !isKind(above))) {
            throw new IllegalArgumentException("no such kind");
        }
        if (subjects.made[kind] > 0 || isAtOrUnder(above, kind)) {
            throw new IllegalStateException("the kind has subjects or would be under itself");
        }
        kindAbove[kind] = above;
    }

    public int make(int kind, int above)
            throws IllegalArgumentException, IllegalStateException, UnsupportedOperationException {
        if (!isKind(kind) || !canBeAbove(kind, above)) {
            throw new IllegalArgumentException("no such kind, or no such subject to be under");
        }
        int slotAbove = slotOrNone(kindAbove[kind], above);
        if (slotAbove != NONE && !subjects.open[slotAbove]) {
            throw new IllegalStateException("the subject to be under is closed");
        }
        if (subjects.made[kind] >= MOST_SUBJECTS) {
            throw new UnsupportedOperationException("no room for one more subject");
        }
        return subjects.add(kind, above);
    }

    public void verb(int kind, int verb, int mode, int a, int b)
            throws IllegalArgumentException, IndexOutOfBoundsException {
        if (!isKind(kind) || !isVerb(verb) || mode < 0 || mode >= MODES) {
            throw new IllegalArgumentException("no such kind, verb or mode");
        }
        if (!isWithin(a, MOST_FACTOR) || !isWithin(b, MOST_FACTOR)) {
            throw new IndexOutOfBoundsException("a or b is out of range");
        }
        verbs.set(kind * VERBS + verb, mode, a, b);
    }

    public long call(int kind, int subject, int verb, int argument)
            throws IllegalArgumentException, IndexOutOfBoundsException, IllegalStateException {
        turns++;
        int refusal = refusalOf(kind, subject, verb, argument);
        if (refusal != FINE) {
            rows.tell(turns, kind, subject, verb, refusal);
        }
        refuse(refusal);
        long answer = answerTo(kind, subject, verb, argument);
        if (answer < FAILED) {
            rows.tell(turns, kind, subject, verb, (int) (FAILED - answer));
        } else {
            carryOut(kind, subject, verb, answer);
        }
        return answer;
    }

    public long simulate(int kind, int subject, int verb, int argument)
            throws IllegalArgumentException, IndexOutOfBoundsException, IllegalStateException {
        refuse(refusalOf(kind, subject, verb, argument));
        return answerTo(kind, subject, verb, argument);
    }

    public int text(int kind, int subject, long bytes, int n)
            throws IllegalArgumentException, IndexOutOfBoundsException, IllegalStateException,
            UnsupportedOperationException {
        if (!isSubject(kind, subject)) {
            throw new IllegalArgumentException("no such kind or subject");
        }
        if (n < 1 || n > MOST_BYTES_AT_ONCE) {
            throw new IndexOutOfBoundsException("n is out of range");
        }
        int slot = slotOf(kind, subject);
        if (!subjects.open[slot]) {
            throw new IllegalStateException("the subject is closed");
        }
        if (subjects.lengths[slot] + n > MOST_TEXT) {
            throw new UnsupportedOperationException("no room for the text");
        }
        return subjects.lengthen(slot, bytes, n);
    }

    public int textAt(int kind, int subject, int i)
            throws IllegalArgumentException, IndexOutOfBoundsException {
        if (!isSubject(kind, subject)) {
            throw new IllegalArgumentException("no such kind or subject");
        }
        if (i < 0) {
            throw new IndexOutOfBoundsException("i is below 0");
        }
        int slot = slotOf(kind, subject);
        return i < subjects.lengths[slot] ? subjects.byteAt(slot, i) : NONE;
    }

    public int find(int kind, long bytes, int n)
            throws IllegalArgumentException, IndexOutOfBoundsException {
        if (!isKind(kind)) {
            throw new IllegalArgumentException("no such kind");
        }
        if (n < 0 || n > MOST_BYTES_AT_ONCE) {
            throw new IndexOutOfBoundsException("n is out of range");
        }
        for (int number = 0; number < subjects.made[kind]; number++) {
            int slot = slotOf(kind, number);
            if (subjects.open[slot] && subjects.hasJust(slot, bytes, n)) {
                return number;
            }
        }
        return NONE;
    }

    public int subject(int kind, int subject, int what) throws IllegalArgumentException {
        if (!isSubject(kind, subject) || what < 0 || what > 3) {
            throw new IllegalArgumentException("no such kind, subject or what");
        }
        int slot = slotOf(kind, subject);
        switch (what) {
            case 0:
                return subjects.aboves[slot];
            case 1:
                return subjects.open[slot] ? 1 : 0;
            case 2:
                return subjects.sums[slot];
            default:
                return openOnesUnder(kind, subject);
        }
    }

    public int row(int i, int what) throws IllegalArgumentException {
        if (i < 0 || i >= rows.kept || what < 0 || what >= ROW_NUMBERS) {
            throw new IllegalArgumentException("no such row or what");
        }
        return rows.numbers[i * ROW_NUMBERS + what];
    }

    public int tick(int n) throws IndexOutOfBoundsException {
        if (n < 1 || n > MOST_TICK || n > MOST_CLOCK - clock) {
            throw new IndexOutOfBoundsException("n is out of range, or the clock would be");
        }
        clock += n;
        return clock;
    }

    public int count(int what) throws IllegalArgumentException {
        switch (what) {
            case 0:
                return turns;
            case 1:
                return rows.kept;
            case 2:
                return subjects.madeInAll();
            case 3:
                return subjects.openInAll();
            default:
                throw new IllegalArgumentException("no such what");
        }
    }

    public int book() {
        int s = stir(stir(0, clock), turns);
        for (int kind = 0; kind < KINDS; kind++) {
            s = subjects.stirKind(stir(s, kindAbove[kind]), kind);
        }
        return rows.stirAll(s);
    }

    private static int stir(int s, int v) {
        int mixed = s ^ v;
        return ((mixed << 5) | (mixed >>> 27)) * 0x85EBCA6B;
    }

    private static boolean isKind(int kind) {
        return kind >= 0 && kind < KINDS;
    }

    private static boolean isVerb(int verb) {
        return verb >= 0 && verb < VERBS;
    }

    private static boolean isWithin(long number, long most) {
        return number >= -most && number <= most;
    }

    private boolean isSubject(int kind, int subject) {
        return isKind(kind) && subject >= 0 && subject < subjects.made[kind];
    }

    private boolean canBeAbove(int kind, int above) {
        int over = kindAbove[kind];
        return over == NONE ? above == NONE : isSubject(over, above);
    }

    private boolean isAtOrUnder(int kind, int goal) {
        int at = kind;
        for (int step = 0; step < KINDS && at != NONE; step++) {
            if (at == goal) {
                return true;
            }
            at = kindAbove[at];
        }
        return false;
    }

    private static int slotOf(int kind, int subject) {
        return kind * MOST_SUBJECTS + subject;
    }

    private int slotOrNone(int kind, int subject) {
        return isSubject(kind, subject) ? slotOf(kind, subject) : NONE;
    }

    private int slotAbove(int kind, int subject) {
        return slotOrNone(kindAbove[kind], subjects.aboves[slotOf(kind, subject)]);
    }

    private int refusalOf(int kind, int subject, int verb, int argument) {
        if (!isSubject(kind, subject) || !isVerb(verb)
                || verbs.modes[kind * VERBS + verb] == MODE_NONE) {
            return UNKNOWN;
        }
        if (!isWithin(argument, MOST_ARGUMENT)) {
            return OUT_OF_RANGE;
        }
        return subjects.open[slotOf(kind, subject)] ? FINE : CLOSED;
    }

    /** Throws what the document names for a refusal; returns only when all is fine. */
    private static void refuse(int refusal) {
        if (refusal == UNKNOWN) {
            throw new IllegalArgumentException("no such kind, subject or verb");
        }
        if (refusal == OUT_OF_RANGE) {
            throw new IndexOutOfBoundsException("the argument is out of range");
        }
        if (refusal == CLOSED) {
            throw new IllegalStateException("the subject is closed");
        }
    }

    /** Changes nothing, so that a simulation and a call can both ask here. */
    private long answerTo(int kind, int subject, int verb, int argument) {
        int entry = kind * VERBS + verb;
        long a = verbs.as[entry];
        long b = verbs.bs[entry];
        long sum = subjects.sums[slotOf(kind, subject)];
        switch (verbs.modes[entry]) {
            case MODE_TELL:
                return a * subject + b;
            case MODE_ADD:
                return sumOrFailure(sum + argument * a + b);
            case MODE_READ:
                return sum * a + b + argument;
            case MODE_FAIL:
                return FAILED - (1 + (a & 7));
            case MODE_PART:
                return argument == 0 ? FAILED - PART_BY_ZERO : sum / argument + b;
            case MODE_PASS:
                return answerToPass(slotAbove(kind, subject), argument);
            default:
                return answerToClose(kind, subject);
        }
    }

    private static long sumOrFailure(long sum) {
        return isWithin(sum, MOST_SUM) ? sum : FAILED - SUM_TOO_FAR;
    }

    private long answerToPass(int slotAbove, int argument) {
        if (slotAbove == NONE) {
            return FAILED - UNDER_NONE;
        }
        return sumOrFailure((long) subjects.sums[slotAbove] + argument);
    }

    private long answerToClose(int kind, int subject) {
        if (openOnesUnder(kind, subject) > 0) {
            return FAILED - OPEN_ONES_UNDER;
        }
        return subjects.openOf(kind) - 1;
    }

    private void carryOut(int kind, int subject, int verb, long answer) {
        switch (verbs.modes[kind * VERBS + verb]) {
            case MODE_ADD:
                setSum(slotOf(kind, subject), answer);
                break;
            case MODE_PASS:
                setSum(slotAbove(kind, subject), answer);
                break;
            case MODE_CLOSE:
                subjects.open[slotOf(kind, subject)] = false;
                break;
            default:
                break;
        }
    }

    private void setSum(int slot, long sum) {
        if (slot != NONE) {
            subjects.sums[slot] = (int) sum;
        }
    }

    private int openOnesUnder(int kind, int subject) {
        int found = 0;
        for (int lower = 0; lower < KINDS; lower++) {
            if (kindAbove[lower] == kind) {
                found += subjects.openUnder(lower, subject);
            }
        }
        return found;
    }

    /** The table of answers: of each kind's verbs the mode and its two numbers. */
    private static final class Verbs {
        private final int[] modes = new int[KINDS * VERBS];
        private final int[] as = new int[KINDS * VERBS];
        private final int[] bs = new int[KINDS * VERBS];

        private void set(int entry, int mode, int a, int b) {
            modes[entry] = mode;
            as[entry] = a;
            bs[entry] = b;
        }
    }

    /** The subjects of all kinds; each kind has its own run of slots, in order of numbers. */
    private static final class Subjects {
        private final int[] made = new int[KINDS];
        private final int[] aboves = new int[SLOTS];
        private final boolean[] open = new boolean[SLOTS];
        private final int[] sums = new int[SLOTS];
        private final int[] lengths = new int[SLOTS];
        private final byte[] bytes = new byte[SLOTS * MOST_TEXT];

        private int add(int kind, int above) {
            int number = made[kind];
            int slot = slotOf(kind, number);
            aboves[slot] = above;
            open[slot] = true;
            made[kind] = number + 1;
            return number;
        }

        private int lengthen(int slot, long more, int n) {
            int start = slot * MOST_TEXT + lengths[slot];
            for (int i = 0; i < n; i++) {
                bytes[start + i] = (byte) byteOf(more, n, i);
            }
            lengths[slot] += n;
            return lengths[slot];
        }

        private int byteAt(int slot, int i) {
            return bytes[slot * MOST_TEXT + i] & 255;
        }

        private boolean hasJust(int slot, long wanted, int n) {
            if (lengths[slot] != n) {
                return false;
            }
            for (int i = 0; i < n; i++) {
                if (byteAt(slot, i) != byteOf(wanted, n, i)) {
                    return false;
                }
            }
            return true;
        }

        private static int byteOf(long packed, int n, int i) {
            return (int) (packed >>> (8 * (n - 1 - i))) & 255;
        }

        private int openOf(int kind) {
            int found = 0;
            for (int number = 0; number < made[kind]; number++) {
                if (open[slotOf(kind, number)]) {
                    found++;
                }
            }
            return found;
        }

        private int openUnder(int kind, int above) {
            int found = 0;
            for (int number = 0; number < made[kind]; number++) {
                int slot = slotOf(kind, number);
                if (open[slot] && aboves[slot] == above) {
                    found++;
                }
            }
            return found;
        }

        private int madeInAll() {
            int found = 0;
            for (int kind = 0; kind < KINDS; kind++) {
                found += made[kind];
            }
            return found;
        }

        private int openInAll() {
            int found = 0;
            for (int kind = 0; kind < KINDS; kind++) {
                found += openOf(kind);
            }
            return found;
        }

        private int stirKind(int before, int kind) {
            int s = before;
            for (int number = 0; number < made[kind]; number++) {
                s = stirOne(s, slotOf(kind, number));
            }
            return s;
        }

        private int stirOne(int before, int slot) {
            int s = stir(stir(stir(before, aboves[slot]), open[slot] ? 1 : 0), sums[slot]);
            for (int i = 0; i < lengths[slot]; i++) {
                s = stir(s, byteAt(slot, i));
            }
            return s;
        }
    }

    /** The told rows, five numbers each; those behind the last place are not kept. */
    private static final class Rows {
        private final int[] numbers = new int[MOST_ROWS * ROW_NUMBERS];
        private int kept;

        private void tell(int turn, int kind, int subject, int verb, int failure) {
            if (kept >= MOST_ROWS) {
                return;
            }
            int start = kept * ROW_NUMBERS;
            numbers[start] = turn;
            numbers[start + 1] = kind;
            numbers[start + 2] = subject;
            numbers[start + 3] = verb;
            numbers[start + 4] = failure;
            kept++;
        }

        private int stirAll(int before) {
            int s = before;
            for (int i = 0; i < kept * ROW_NUMBERS; i++) {
                s = stir(s, numbers[i]);
            }
            return s;
        }
    }
}
