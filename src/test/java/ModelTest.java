/** Long runs of mixed calls, right and wild ones, answered as the model answers them. */
public final class ModelTest {
    private static final int RUNS = 1_500;

    /** With the book at the end, all that an object is promised for. */
    private static final int CALLS = 511;

    private static final int[] WILD = {Integer.MIN_VALUE, -1_000_001, -1001, -2, -1, 8, 9, 29, 30,
        31, 80, 1001, 1_000_001, 1_000_000_000, Integer.MAX_VALUE};
    private static final int[] ARGUMENTS =
            {0, 1, -1, 2, 3, -7, 500, 999_999, 1_000_000, -1_000_000};
    private static final int[] FACTORS = {0, 1, -1, 2, 7, 9, -3, 1000, -1000};
    private static final long[] TEXTS = {0, 65, 0x4142, -1, 0x8000_0000_0000_00FFL};

    private final ServiceDesk desk = new ServiceDesk();
    private final DeskModel model = new DeskModel();
    private final int wildness;
    private long seed;
    private String last = "";

    private ModelTest(int run) {
        seed = run * 7919L + 1;
        wildness = run % 3 == 0 ? 4 : 40;
    }

    public static void main(String[] args) {
        int wrong = 0;
        for (int run = 0; run < RUNS && wrong < 10; run++) {
            wrong += new ModelTest(run).differsIn(run) ? 1 : 0;
        }
        System.out.println(wrong == 0 ? "all runs are as the model's" : wrong + " runs differ");
        if (wrong != 0) {
            System.exit(1);
        }
    }

    private boolean differsIn(int run) {
        for (int call = 0; call <= CALLS; call++) {
            String[] answers = next(run, call);
            if (!answers[0].equals(answers[1])) {
                System.out.println("run " + run + ", call " + call + ", " + last + ": got "
                        + answers[0] + ", due is " + answers[1]);
                return true;
            }
        }
        return false;
    }

    private String[] next(int run, int call) {
        if (call == CALLS) {
            last = "book";
            return both(desk::book, model.book());
        }
        return run % 2 == 0 && call < 30 ? setUp(call) : anyCall();
    }

    private int below(int bound) {
        seed = seed * 6364136223846793005L + 1442695040888963407L;
        return (int) ((seed >>> 33) % bound);
    }

    private int wildOr(int number) {
        return below(wildness) == 0 ? WILD[below(WILD.length)] : number;
    }

    private int kind() {
        return wildOr(below(10) == 0 ? below(8) : below(4));
    }

    private int oneSubject() {
        return wildOr(below(20) == 0 ? below(31) : below(5));
    }

    private int argument() {
        return wildOr(ARGUMENTS[below(ARGUMENTS.length)]);
    }

    private String[] setUp(int call) {
        int kind = call % 4;
        if (call < 4) {
            return under(kind, below(2) == 0 ? -1 : kind - 1);
        }
        return call % 8 < 4 ? make(kind, below(3) - 1) : verb(kind, below(8), 1 + below(7));
    }

    private String[] anyCall() {
        switch (below(16)) {
            case 0:
                return under(kind(), wildOr(below(9) - 1));
            case 1:
            case 2:
                return make(kind(), wildOr(below(4) - 1));
            case 3:
                return verb(kind(), wildOr(below(8)), wildOr(below(8)));
            case 4:
            case 5:
            case 6:
            case 7:
                return call(new int[] {kind(), oneSubject(), wildOr(below(8)), argument()});
            case 8:
                return simulate(new int[] {kind(), oneSubject(), wildOr(below(8)), argument()});
            case 9:
                return text(new int[] {kind(), oneSubject(), wildOr(1 + below(8))});
            case 10:
                return textAt(kind(), oneSubject(), wildOr(below(17)));
            case 11:
                return find(kind(), TEXTS[below(TEXTS.length)], wildOr(below(9)));
            default:
                return ask();
        }
    }

    private String[] ask() {
        int i = wildOr(below(80));
        int kind = kind();
        int subject = oneSubject();
        int what = wildOr(below(5));
        int n = wildOr(1 + below(100_000));
        last = "asked " + kind + " " + subject + " " + i + " " + what + " " + n;
        switch (below(5)) {
            case 0:
                return both(() -> desk.subject(kind, subject, what),
                        model.subject(kind, subject, what));
            case 1:
                return both(() -> desk.row(i, what), model.row(i, what));
            case 2:
                return both(() -> desk.tick(n), model.tick(n));
            case 3:
                return both(() -> desk.count(what), model.count(what));
            default:
                return both(desk::book, model.book());
        }
    }

    private String[] under(int kind, int above) {
        last = "under " + kind + " " + above;
        return bothDo(() -> desk.under(kind, above), model.under(kind, above));
    }

    private String[] make(int kind, int above) {
        last = "make " + kind + " " + above;
        return both(() -> desk.make(kind, above), model.make(kind, above));
    }

    private String[] verb(int kind, int verb, int mode) {
        int a = wildOr(FACTORS[below(FACTORS.length)]);
        int b = wildOr(FACTORS[below(FACTORS.length)]);
        last = "verb " + kind + " " + verb + " " + mode + " " + a + " " + b;
        return bothDo(() -> desk.verb(kind, verb, mode, a, b), model.verb(kind, verb, mode, a, b));
    }

    private String[] call(int[] c) {
        last = "call " + c[0] + " " + c[1] + " " + c[2] + " " + c[3];
        return both(() -> desk.call(c[0], c[1], c[2], c[3]), model.call(c));
    }

    private String[] simulate(int[] c) {
        last = "simulate " + c[0] + " " + c[1] + " " + c[2] + " " + c[3];
        return both(() -> desk.simulate(c[0], c[1], c[2], c[3]), model.simulate(c));
    }

    private String[] text(int[] c) {
        long bytes = TEXTS[below(TEXTS.length)];
        last = "text " + c[0] + " " + c[1] + " " + bytes + " " + c[2];
        return both(() -> desk.text(c[0], c[1], bytes, c[2]), model.text(c[0], c[1], bytes, c[2]));
    }

    private String[] textAt(int kind, int subject, int i) {
        last = "textAt " + kind + " " + subject + " " + i;
        return both(() -> desk.textAt(kind, subject, i), model.textAt(kind, subject, i));
    }

    private String[] find(int kind, long bytes, int n) {
        last = "find " + kind + " " + bytes + " " + n;
        return both(() -> desk.find(kind, bytes, n), model.find(kind, bytes, n));
    }

    private static String[] both(Checks.Call call, String want) {
        String got;
        try {
            got = Long.toString(call.answer());
        } catch (RuntimeException e) {
            got = e.getClass().getSimpleName();
        }
        return new String[] {got, want};
    }

    private static String[] bothDo(Checks.Deed deed, String want) {
        String got = "void";
        try {
            deed.run();
        } catch (RuntimeException e) {
            got = e.getClass().getSimpleName();
        }
        return new String[] {got, want};
    }
}
