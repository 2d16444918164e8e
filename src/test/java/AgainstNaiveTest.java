import java.util.Random;

/**
 * Long runs of calls on a QuarrelBook and on its slow twin: every answer, what is told aside, and the digest have to
 * be the same. The runs are always the same ones: the seeds are told.
 */
public final class AgainstNaiveTest {
    private static final int RUNS = 80, CALLS = 512;

    // Each call with what its arguments are: a letter of draw() an argument. A name that stands more often is
    // called more often.
    private static final String[] CALLED = {
        "row rn", "lay riv", "lay riv", "lay riv", "lay riv", "tear r", "copy ririn", "mean r", "text tn", "put tib",
        "put tib", "put tib", "put tib", "instance T", "instance T", "master yyh", "saying mcyaw", "saying mcyaw",
        "saying mcyaw", "saying mcyaw", "saying mcyaw", "saying mcyaw", "sayings myr", "told sf", "traits c",
        "life mf", "fault t", "fault t", "rule t", "answers uT", "fits su", "costs su", "prices ppp", "prices ppp",
        "settle m", "settle m", "second m", "second m", "cheap m", "cheapAt mi", "all ", "against s", "against s",
        "nobody ", "plain s", "plain s", "changed m", "changed m", "changed m", "parts cc", "met mm", "can B",
        "reads 5sa", "reads 5sa", "reading s", "slip n9n", "runs s", "runs s", "move skd", "move sod", "move sod",
        "move skd", "move skd", "moved ff", "mark gk", "mark gk", "follow ", "follow ", "law 3T", "lawsPart 33",
        "fresh mT", "fresh mT", "next ", "upper ", "lower ", "count f", "finding ", "findings f", "digest "};

    private final Random random;
    private final QuarrelBook book = new QuarrelBook();
    private final NaiveBook twin = new NaiveBook();
    // How wild the numbers are: a run of ordinary ones gets further, one of wild ones is refused more.
    private final int wildness;
    private int begun = 0;
    // All calls of the object, those that only look at it too: it is used for 512 at most.
    private int made = 0;
    private int objectedTo = 0;

    private AgainstNaiveTest(long seed) {
        random = new Random(seed);
        wildness = seed % 4 == 0 ? 6 : 60;
    }

    public static void main(String[] args) {
        for (int run = 0; run < RUNS; run++) {
            AgainstNaiveTest test = new AgainstNaiveTest(run);
            if (run % 5 == 1) test.fillUp();
            else if (run % 5 == 2) test.tearApart();
            else test.settleIn();
            while (test.made < CALLS - 12) {
                if (!test.callOne()) break;
            }
            test.sameState("the last of run " + run);
        }
        Check.finish();
    }

    /** As many cases, masters, sayings, moves, rows and texts as there can be. */
    private void fillUp() {
        for (int c = 0; c < 12; c++) same("instance", random.nextInt(32));
        for (int m = 0; m < 8; m++) {
            int born = random.nextInt(100);
            same("master", born, born + random.nextInt(90), m == 0 ? QuarrelBook.NONE : random.nextInt(m));
        }
        for (int s = 0; s < 24; s++) {
            int m = s < 9 ? 7 : s % 8 == 7 ? 0 : s % 8;
            same("saying", m, random.nextInt(12), yearOf(m), random.nextInt(2), draw('w'));
        }
        for (int m = 0; m < 20; m++) {
            int s = random.nextInt(24);
            same("move", s, 1, (s + 1 + random.nextInt(23)) % 24);
            same("move", s, 2 + random.nextInt(3), random.nextInt(5));
        }
        for (int r = 0; r < 6; r++) same("row", r, 40);
        for (int t = 0; t < 4; t++) same("text", t, 40);
        for (int i = 0; i < 4; i++) same("lay", 5, 39 - i, random.nextInt());
        for (int i = 0; i < 4; i++) same("put", 1, 39 - i, draw('b'));
        same("mean", 5);
        same("copy", 5, 20, 0, 20, 20);
    }

    /** Cases and masters enough for sayings to mean something; every other run with many sayings of few masters. */
    private void settleIn() {
        int cases = 3 + random.nextInt(9);
        for (int c = 0; c < cases; c++) same("instance", random.nextInt(32));
        int masters = 1 + random.nextInt(4);
        for (int m = 0; m < masters; m++) {
            int born = random.nextInt(100);
            same("master", born, born + random.nextInt(90), m == 0 ? QuarrelBook.NONE : random.nextInt(m));
        }
        if (random.nextInt(3) > 0) same("prices", random.nextInt(9), random.nextInt(20), random.nextInt(9));
    }

    /** Masters who contradict themselves until two rules are cheaper, and moves that look at the lesser ones. */
    private void tearApart() {
        same("prices", 3 + random.nextInt(6), 4 + random.nextInt(9), random.nextInt(3));
        for (int c = 0; c < 5; c++) same("instance", random.nextInt(8));
        for (int m = 0; m < 3; m++) same("master", 10 * m, 90, m == 0 ? QuarrelBook.NONE : m - 1);
        for (int s = 0; s < 15; s++) {
            same("saying", s % 3, random.nextInt(5), yearOf(s % 3), random.nextInt(2), draw('w'));
        }
        for (int m = 0; m < 3; m++) same("second", m);
        for (int m = 0; m < 20; m += 2) {
            int s = random.nextInt(15);
            int kind = random.nextInt(4) > 0 ? 3 : 6;
            same("move", s, 1, (s + 1 + random.nextInt(14)) % 15);
            same("move", s, kind, random.nextInt(3));
            same("mark", m + 1, kind);
        }
        same("follow");
    }

    private boolean callOne() {
        String[] called = CALLED[random.nextInt(CALLED.length)].split(" ", -1);
        int[] args = new int[called[1].length()];
        for (int i = 0; i < args.length; i++) args[i] = draw(called[1].charAt(i));
        if (called[0].equals("saying") && random.nextInt(10) > 0) args[2] = yearOf(args[0]);
        if (called[0].equals("sayings") && random.nextInt(10) > 0) args[1] = yearOf(args[0]);
        if (called[0].equals("move")) aimMove(args);
        return same(called[0], args);
    }

    /** Most answers are about the saying that was objected to last, or follow() would find little to close. */
    private void aimMove(int[] args) {
        if (args[1] == 1) objectedTo = args[0];
        else if (random.nextInt(4) > 0) args[0] = objectedTo;
    }

    private int yearOf(int m) {
        if (m < 0 || m >= twin.count(1)) return 0;
        int asked = twin.asked();
        twin.life(m, 0);
        int born = twin.asked();
        twin.life(m, 1);
        int dies = twin.asked();
        twin.restoreAsked(asked);
        return born + random.nextInt(dies - born + 1);
    }

    private int draw(char kind) {
        if (random.nextInt(wildness) == 0) return wild();
        switch (kind) {
            case 'r': return random.nextInt(3);
            case 't': return random.nextInt(2);
            case 'n': return random.nextInt(6);
            case 'i': return random.nextInt(5);
            case 'v': return random.nextInt(4) + 16 * (random.nextInt(16) - 8);
            case 'b': return "  !abcde01f".charAt(random.nextInt(11));
            case 'T': return random.nextInt(32);
            case 'y': return random.nextInt(200);
            case 'h': return random.nextBoolean() ? QuarrelBook.NONE : below(twin.count(1));
            case 'm': return below(twin.count(1));
            case 'c': return below(twin.count(0));
            case 's': return below(twin.count(2));
            case 'g': return below(twin.count(3));
            case 'a': return random.nextInt(2);
            case 'w': return random.nextInt(3) > 0 ? QuarrelBook.NONE : random.nextInt(5);
            case 'u': return random.nextInt(244);
            case 'p': return random.nextInt(3) == 0 ? random.nextInt(100) : random.nextInt(12);
            case 'f': return random.nextInt(7);
            case 'k': return random.nextInt(7);
            case 'o': return 1;
            case 'd': return random.nextBoolean() ? random.nextInt(5) : random.nextInt(150);
            case 'B': return below(1 << twin.count(1));
            default: return random.nextInt(kind - '0');
        }
    }

    private int below(int many) {
        return many == 0 ? 0 : random.nextInt(many);
    }

    private int wild() {
        int[] edges = {-1, 0, 1, 12, 24, 31, 32, 40, 41, 99, 100, 243, 244, 999, 1000, -9, -128, -129, 127, 128,
            Integer.MAX_VALUE, Integer.MIN_VALUE};
        return random.nextInt(4) == 0 ? random.nextInt() : edges[random.nextInt(edges.length)];
    }

    /** Calls both; whether they answered the same. */
    private boolean same(String name, int... args) {
        begun++;
        made += 2;
        long got = Calls.call(book, name, args);
        long want = Calls.call(twin, name, args);
        String call = "call " + begun + ": " + Calls.named(name, args);
        Check.due(call, got, want);
        Check.due(call + ", then asked()", book.asked(), twin.asked());
        if (begun % 6 == 0) sameState(call);
        return got == want;
    }

    private void sameState(String call) {
        made += 4;
        Check.due(call + ", then digest()", book.digest(), twin.digest());
        Check.due(call + ", then finding()", book.finding(), twin.finding());
        Check.due(call + ", then upper()", book.upper(), twin.upper());
        Check.due(call + ", then lower()", book.lower(), twin.lower());
    }
}
