import java.util.ArrayList;
import java.util.List;

/**
 * The document told a second time, with lists and objects, for comparison. Each call answers a
 * text: the number, "void", or the plain name of the exception that is due.
 */
final class DeskModel {
    private static final String UNKNOWN = "IllegalArgumentException";
    private static final String RANGE = "IndexOutOfBoundsException";
    private static final String STATE = "IllegalStateException";
    private static final String NO_ROOM = "UnsupportedOperationException";

    private static final class Subject {
        final Kind kind;
        final int number;
        final Subject above;
        final List<Subject> below = new ArrayList<>();
        final List<Integer> text = new ArrayList<>();
        boolean open = true;
        long sum;

        Subject(Kind kind, Subject above) {
            this.kind = kind;
            this.number = kind.subjects.size();
            this.above = above;
        }

        int openBelow() {
            return (int) below.stream().filter(s -> s.open).count();
        }
    }

    private static final class Kind {
        Kind above;
        final int number;
        final List<Subject> subjects = new ArrayList<>();
        final int[][] verbs = new int[8][3];

        Kind(int number) {
            this.number = number;
        }

        int open() {
            return (int) subjects.stream().filter(s -> s.open).count();
        }
    }

    private final List<Kind> kinds = new ArrayList<>();
    private final List<int[]> rows = new ArrayList<>();
    private int clock;
    private int turns;

    DeskModel() {
        for (int i = 0; i < 8; i++) {
            kinds.add(new Kind(i));
        }
    }

    private Kind kind(int number) {
        return number >= 0 && number < kinds.size() ? kinds.get(number) : null;
    }

    private Subject one(int kind, int number) {
        Kind k = kind(kind);
        return k != null && number >= 0 && number < k.subjects.size()
                ? k.subjects.get(number) : null;
    }

    String under(int kind, int above) {
        Kind k = kind(kind);
        Kind up = kind(above);
        if (k == null || (up == null && above != -1)) {
            return UNKNOWN;
        }
        if (!k.subjects.isEmpty()) {
            return STATE;
        }
        for (Kind at = up; at != null; at = at.above) {
            if (at == k) {
                return STATE;
            }
        }
        k.above = up;
        return "void";
    }

    String make(int kind, int above) {
        Kind k = kind(kind);
        if (k == null) {
            return UNKNOWN;
        }
        Subject up = k.above == null ? null : one(k.above.number, above);
        if (k.above == null ? above != -1 : up == null) {
            return UNKNOWN;
        }
        if (up != null && !up.open) {
            return STATE;
        }
        if (k.subjects.size() == 30) {
            return NO_ROOM;
        }
        Subject made = new Subject(k, up);
        k.subjects.add(made);
        if (up != null) {
            up.below.add(made);
        }
        return Integer.toString(made.number);
    }

    String verb(int kind, int verb, int mode, int a, int b) {
        Kind k = kind(kind);
        if (k == null || verb < 0 || verb > 7 || mode < 0 || mode > 7) {
            return UNKNOWN;
        }
        if (a < -1000 || a > 1000 || b < -1000 || b > 1000) {
            return RANGE;
        }
        k.verbs[verb] = new int[] {mode, a, b};
        return "void";
    }

    String call(int[] c) {
        turns++;
        String refusal = refusal(c);
        if (refusal != null) {
            tell(c, refusal.equals(UNKNOWN) ? 13 : refusal.equals(RANGE) ? 14 : 15);
            return refusal;
        }
        long answer = answer(c, true);
        if (answer < -9_000_000_000_000L) {
            tell(c, (int) (-9_000_000_000_000L - answer));
        }
        return Long.toString(answer);
    }

    String simulate(int[] c) {
        String refusal = refusal(c);
        return refusal != null ? refusal : Long.toString(answer(c, false));
    }

    private void tell(int[] c, int failure) {
        if (rows.size() < 80) {
            rows.add(new int[] {turns, c[0], c[1], c[2], failure});
        }
    }

    private String refusal(int[] c) {
        Subject s = one(c[0], c[1]);
        if (s == null || c[2] < 0 || c[2] > 7 || s.kind.verbs[c[2]][0] == 0) {
            return UNKNOWN;
        }
        if (c[3] < -1_000_000 || c[3] > 1_000_000) {
            return RANGE;
        }
        return s.open ? null : STATE;
    }

    private static long failure(int kind) {
        return -9_000_000_000_000L - kind;
    }

    private static long added(Subject s, long more, boolean keep) {
        long sum = s.sum + more;
        if (sum > 1_000_000_000L || sum < -1_000_000_000L) {
            return failure(9);
        }
        if (keep) {
            s.sum = sum;
        }
        return sum;
    }

    private long answer(int[] c, boolean keep) {
        Subject s = one(c[0], c[1]);
        int mode = s.kind.verbs[c[2]][0];
        long a = s.kind.verbs[c[2]][1];
        long b = s.kind.verbs[c[2]][2];
        long argument = c[3];
        if (mode == 1) {
            return a * s.number + b;
        } else if (mode == 2) {
            return added(s, argument * a + b, keep);
        } else if (mode == 3) {
            return s.sum * a + b + argument;
        } else if (mode == 4) {
            return failure(1 + (int) Math.floorMod(a, 8L));
        } else if (mode == 5) {
            return argument == 0 ? failure(10) : s.sum / argument + b;
        } else if (mode == 6) {
            return s.above == null ? failure(11) : added(s.above, argument, keep);
        }
        if (s.openBelow() > 0) {
            return failure(12);
        }
        if (keep) {
            s.open = false;
            return s.kind.open();
        }
        return s.kind.open() - 1;
    }

    private static List<Integer> bytes(long packed, int n) {
        List<Integer> found = new ArrayList<>();
        for (int i = 0; i < n; i++) {
            found.add(0, (int) (packed & 255));
            packed >>= 8;
        }
        return found;
    }

    String text(int kind, int subject, long packed, int n) {
        Subject s = one(kind, subject);
        if (s == null) {
            return UNKNOWN;
        }
        if (n < 1 || n > 8) {
            return RANGE;
        }
        if (!s.open) {
            return STATE;
        }
        if (s.text.size() + n > 16) {
            return NO_ROOM;
        }
        s.text.addAll(bytes(packed, n));
        return Integer.toString(s.text.size());
    }

    String textAt(int kind, int subject, int i) {
        Subject s = one(kind, subject);
        if (s == null) {
            return UNKNOWN;
        }
        if (i < 0) {
            return RANGE;
        }
        return i < s.text.size() ? s.text.get(i).toString() : "-1";
    }

    String find(int kind, long packed, int n) {
        Kind k = kind(kind);
        if (k == null) {
            return UNKNOWN;
        }
        if (n < 0 || n > 8) {
            return RANGE;
        }
        for (Subject s : k.subjects) {
            if (s.open && s.text.equals(bytes(packed, n))) {
                return Integer.toString(s.number);
            }
        }
        return "-1";
    }

    String subject(int kind, int subject, int what) {
        Subject s = one(kind, subject);
        if (s == null || what < 0 || what > 3) {
            return UNKNOWN;
        }
        long[] told = {s.above == null ? -1 : s.above.number, s.open ? 1 : 0, s.sum, s.openBelow()};
        return Long.toString(told[what]);
    }

    String row(int i, int what) {
        boolean known = i >= 0 && i < rows.size() && what >= 0 && what < 5;
        return known ? Integer.toString(rows.get(i)[what]) : UNKNOWN;
    }

    String tick(int n) {
        if (n < 1 || n > 100_000 || (long) clock + n > 1_000_000_000L) {
            return RANGE;
        }
        clock += n;
        return Integer.toString(clock);
    }

    String count(int what) {
        int made = 0;
        int open = 0;
        for (Kind k : kinds) {
            made += k.subjects.size();
            open += k.open();
        }
        int[] told = {turns, rows.size(), made, open};
        return what >= 0 && what < 4 ? Integer.toString(told[what]) : UNKNOWN;
    }

    String book() {
        List<Integer> all = new ArrayList<>(List.of(clock, turns));
        for (Kind k : kinds) {
            all.add(k.above == null ? -1 : k.above.number);
            for (Subject s : k.subjects) {
                all.add(s.above == null ? -1 : s.above.number);
                all.add(s.open ? 1 : 0);
                all.add((int) s.sum);
                all.addAll(s.text);
            }
        }
        for (int[] row : rows) {
            for (int number : row) {
                all.add(number);
            }
        }
        int sum = 0;
        for (int v : all) {
            sum = Integer.rotateLeft(sum ^ v, 5) * 0x85EBCA6B;
        }
        return Integer.toString(sum);
    }
}
