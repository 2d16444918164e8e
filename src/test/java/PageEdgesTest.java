import java.math.BigInteger;
import java.util.function.Supplier;

/** The boundary cases of promises 32 to 41: years, copies, moves. */
public final class PageEdgesTest {
    private static final int FULL = QuarrelBook.FULL, NONE = QuarrelBook.NONE;
    private static final int MIN = Integer.MIN_VALUE, MAX = Integer.MAX_VALUE;
    private static final int[] NO_MASTER = {-1, 3, 7, 8, NONE, MIN, MAX};
    private static final int[] NO_SAYING = {-1, 4, 23, 24, NONE, MIN, MAX};
    private static final int NOTE = 0, OBJECTION = 1, PARTED = 2, HELD = 3, AMENDED = 4, TWO = 5, LEFT = 6;

    public static void main(String[] args) {
        metAt15();
        metWhileTheyLive();
        metRefused();
        canWithin70();
        canWithoutSayings();
        canRefused();
        copiesAre0To4();
        copiesReadOrHaveItNot();
        readsRefused();
        readingByMore();
        readingAlike();
        readingRefused();
        slipOfAll();
        slipInLowestTerms();
        slipRefused();
        runsAlike();
        runsByTheOther();
        runsByWhatWasSaid();
        runsWithTheBecause();
        runsLeavesTheSaying();
        runsRefused();
        moveOfEachKind();
        moveOfWhatIsNotLookedAt();
        moveOfAWrongNumber();
        movesAre40AtMost();
        movedEdges();
        movedRefused();
        markOfEachKind();
        markOfAnObjection();
        markOfParted();
        markOfHeld();
        markOfAmended();
        markOfTwo();
        markOfLeft();
        markOfAnotherKind();
        markRefused();
        followWithoutMoves();
        followOf40();
        followTheLastOpenOne();
        followWhatIsAboutAnother();
        followParted();
        followHeld();
        followAmended();
        followTwo();
        followLeft();
        Check.finish();
    }

    /** In how many years two met, of whom one lives from 100 to 200. */
    private static void metIs(String name, int born, int dies, int years) {
        QuarrelBook x = new QuarrelBook();
        x.master(100, 200, NONE);
        x.master(born, dies, NONE);
        Check.due(name + ": met(0, 1)", x.met(0, 1), years);
        Check.due(name + ": met(1, 0)", x.met(1, 0), years);
    }

    private static void metAt15() {
        Check.about("MET: years in which both are 15 at least");
        metIs("15 in the other's last year", 185, 300, 1);
        metIs("14 in the other's last year", 186, 300, 0);
        metIs("16 in the other's last year", 184, 300, 2);
        metIs("the other is 15 in his last year", 0, 115, 1);
        metIs("the other is 14 in his last year", 0, 114, 0);
        metIs("he dies at 15", 150, 165, 1);
        metIs("he dies at 14", 150, 164, 0);
        metIs("the same years", 100, 200, 86);
    }

    private static void metWhileTheyLive() {
        Check.about("MET: and live; 0: they did not");
        metIs("dead when the other is born", 0, 99, 0);
        metIs("dead in the year the other is born", 0, 100, 0);
        metIs("born when the other dies", 200, 999, 0);
        metIs("born behind the other's death", 201, 999, 0);
        metIs("at the end of all years", 999, 999, 0);
        metIs("at the beginning of all years", 0, 0, 0);
        metIs("all years", 0, 999, 86);
        QuarrelBook x = new QuarrelBook();
        x.master(0, 999, NONE);
        x.master(0, 999, NONE);
        x.master(0, 0, NONE);
        Check.due("met(0, 1), all years both", x.met(0, 1), 985);
        Check.due("met(0, 0), himself", x.met(0, 0), 985);
        Check.due("met(2, 2), himself, who died a child", x.met(2, 2), 0);
    }

    private static void metRefused() {
        Check.about("32: BAD");
        for (int m : NO_MASTER) {
            Refused.bad(Books::some, "met", m, 0);
            Refused.bad(Books::some, "met", 0, m);
            Refused.bad(Books::some, "met", m, m);
        }
        Refused.bad(Books::fresh, "met", 0, 0);
        Refused.bad(Books::full, "met", 8, 7);
        Refused.bad(Books::full, "met", 7, 8);
    }

    /** Two masters who live from 0 to 999, each with a saying in a year. */
    private static QuarrelBook saidIn(int one, int other) {
        QuarrelBook x = new QuarrelBook();
        x.instance(0);
        x.master(0, 999, NONE);
        x.master(0, 999, NONE);
        x.saying(0, 0, one, 1, NONE);
        x.saying(1, 0, other, 1, NONE);
        return x;
    }

    private static void canWithin70() {
        Check.about("CAN: years are not more than 70 from one another");
        int[][] years = {{0, 70, 1, 70}, {0, 71, 0, 71}, {70, 0, 1, 70}, {71, 0, 0, 71}, {929, 999, 1, 70},
            {928, 999, 0, 71}, {0, 999, 0, 999}, {5, 5, 1, 0}, {0, 69, 1, 69}};
        for (int[] one : years) {
            QuarrelBook x = saidIn(one[0], one[1]);
            Check.both("can(3) of " + one[0] + " and " + one[1], x, x.can(3), one[2], one[3]);
            Check.both("can(1), one alone", x, x.can(1), 1, 0);
            Check.both("can(2), one alone", x, x.can(2), 1, 0);
        }
        QuarrelBook x = saidIn(100, 100);
        x.saying(0, 0, 171, 1, NONE);
        Check.both("can(1), one who can't be one", x, x.can(1), 0, 71);
        Check.both("can(2)", x, x.can(2), 1, 0);
    }

    private static void canWithoutSayings() {
        Check.about("33: how far years are apart by asked() (0 without SAYINGS)");
        QuarrelBook x = new QuarrelBook();
        for (int m = 0; m < 8; m++) x.master(0, 999, NONE);
        x.told(0, 0);
        for (int bits : new int[] {1, 128, 129, 255}) Check.both("can(" + bits + ")", x, x.can(bits), 1, 0);
        x.instance(0);
        x.saying(7, 0, 999, 1, NONE);
        Check.both("can(255), one saying", x, x.can(255), 1, 0);
        x.saying(0, 0, 928, 1, NONE);
        Check.both("can(255)", x, x.can(255), 0, 71);
        Check.both("can(254)", x, x.can(254), 1, 0);
        Check.both("can(127)", x, x.can(127), 1, 0);
        Check.both("can(126), those who say nothing", x, x.can(126), 1, 0);
    }

    private static void canRefused() {
        Check.about("33: BAD: bits, none");
        for (int bits : new int[] {0, 8, 9, 15, 16, 256, -1, -8, NONE, MIN, MIN + 1, MAX, 1 << 30}) {
            Refused.bad(Books::some, "can", bits);
        }
        for (int bits : new int[] {0, 1, 2, -1, MIN, MAX}) Refused.bad(Books::fresh, "can", bits);
        for (int bits : new int[] {0, 256, 257, 511, -1, -256, MIN, MAX}) Refused.bad(Books::full, "can", bits);
        Check.due("can(7), all of three", Books.some().can(7), 1);
    }

    private static void copiesAre0To4() {
        Check.about("COPIES 0 .. 4 of a SAYING");
        QuarrelBook x = Books.full();
        for (int s : new int[] {0, 23}) {
            for (int copy = 0; copy < 5; copy++) {
                Check.due(Calls.named("reads", copy, s, 1), x.reads(copy, s, 1), NONE);
                Check.both("reading(" + s + ")", x, x.reading(s), 1, copy + 1);
            }
        }
        Check.due("reads(0, 1, 1), another saying", x.reads(0, 1, 1), NONE);
        for (int copy : new int[] {-1, 5, 6, NONE, MIN, MAX}) {
            Refused.bad(Books::some, "reads", copy, 0, 0);
            Refused.bad(Books::some, "reads", copy, 0, NONE);
        }
    }

    private static void copiesReadOrHaveItNot() {
        Check.about("34: reads 0, 1, or has it not (NONE): what it had (NONE)");
        int[] answers = {NONE, 0, 1};
        for (int had : answers) {
            for (int has : answers) {
                QuarrelBook x = Books.some();
                Check.due("at first", x.reads(3, 1, had), NONE);
                Check.due(had + ", then reads(3, 1, " + has + ")", x.reads(3, 1, has), had);
                Check.due("then reads(3, 1, NONE)", x.reads(3, 1, NONE), has);
                Check.due("asked() is not told by reads()", x.asked(), 50);
            }
        }
    }

    private static void readsRefused() {
        Check.about("34: BAD");
        for (int s : NO_SAYING) Refused.bad(Books::some, "reads", 0, s, 1);
        for (int answer : new int[] {-1, 2, 3, -8, -10, MIN, MAX}) {
            Refused.bad(Books::some, "reads", 0, 0, answer);
            Refused.bad(Books::some, "reads", 4, 3, answer);
        }
        Refused.bad(Books::fresh, "reads", 0, 0, 1);
        Refused.bad(Books::full, "reads", 0, 24, 1);
        Refused.bad(Books::full, "reads", 5, 23, 1);
    }

    /** What is read of a saying that answers so, by as many copies of each kind. */
    private static void readingIs(int said, int owed, int not, int reading) {
        QuarrelBook x = new QuarrelBook();
        x.instance(0);
        x.master(0, 9, NONE);
        x.saying(0, 0, 5, said, NONE);
        for (int copy = 0; copy < owed + not; copy++) x.reads(4 - copy, 0, copy < owed ? 1 : 0);
        String name = said + " said, " + owed + " to " + not + ": reading(0)";
        Check.both(name, x, x.reading(0), reading, owed + not);
        Check.both(name + ", told(0, 3) stays", x, x.told(0, 3), 1, said);
    }

    private static void readingByMore() {
        Check.about("READING: by more copies");
        for (int said = 0; said < 2; said++) {
            for (int owed = 0; owed <= 5; owed++) {
                for (int not = 0; owed + not <= 5; not++) {
                    if (owed != not) readingIs(said, owed, not, owed > not ? 1 : 0);
                }
            }
        }
    }

    private static void readingAlike() {
        Check.about("READING: alike: as the SAYING says");
        for (int said = 0; said < 2; said++) {
            for (int each = 0; each <= 2; each++) readingIs(said, each, each, said);
        }
    }

    private static void readingRefused() {
        Check.about("35: BAD");
        for (int s : NO_SAYING) Refused.bad(Books::some, "reading", s);
        Refused.bad(Books::fresh, "reading", 0);
        Refused.bad(Books::full, "reading", 24);
    }

    /** By rolling one copy after the other: in how many of many^n ways k or more are wrong. */
    private static BigInteger waysWrong(int n, int many, int k) {
        if (k <= 0) return BigInteger.valueOf(many).pow(n);
        if (n == 0) return BigInteger.ZERO;
        BigInteger right = waysWrong(n - 1, many, k).multiply(BigInteger.valueOf(many - 1));
        return waysWrong(n - 1, many, k - 1).add(right);
    }

    private static void slipOfAll() {
        Check.about("36: n (1 .. 12) copies, one in so many (2 .. 9), k (0 .. n), told by upper(), lower()");
        for (int n = 1; n <= 12; n++) {
            for (int many = 2; many <= 9; many++) {
                QuarrelBook x = new QuarrelBook();
                for (int k = 0; k <= n; k++) {
                    String call = Calls.named("slip", n, many, k);
                    BigInteger upper = waysWrong(n, many, k);
                    BigInteger lower = BigInteger.valueOf(many).pow(n);
                    BigInteger both = upper.gcd(lower);
                    Check.due(call, x.slip(n, many, k), 1);
                    Check.due("upper() of " + call, x.upper(), upper.divide(both).longValueExact());
                    Check.due("lower() of " + call, x.lower(), lower.divide(both).longValueExact());
                }
            }
        }
    }

    private static void slipInLowestTerms() {
        Check.about("Fractions are told by upper() and lower(), in lowest terms, the lower number above 0");
        long[][] odds = {{1, 2, 0, 1, 1}, {1, 2, 1, 1, 2}, {1, 9, 1, 1, 9}, {12, 9, 0, 1, 1},
            {12, 9, 12, 1, 282429536481L}, {12, 2, 12, 1, 4096}, {3, 2, 2, 1, 2}, {2, 2, 1, 3, 4}, {3, 6, 2, 2, 27}};
        for (long[] one : odds) {
            QuarrelBook x = Books.some();
            Check.due("slip()", x.slip((int) one[0], (int) one[1], (int) one[2]), 1);
            Check.due("upper()", x.upper(), one[3]);
            Check.due("lower()", x.lower(), one[4]);
            Check.due("asked() is not told by slip()", x.asked(), 50);
        }
    }

    private static void slipRefused() {
        Check.about("36: BAD");
        for (int n : new int[] {0, -1, 13, 14, NONE, MIN, MAX}) {
            Refused.bad(Books::some, "slip", n, 2, 0);
            Refused.bad(Books::some, "slip", n, 9, n);
        }
        for (int many : new int[] {1, 0, -1, 10, 11, NONE, MIN, MAX}) {
            Refused.bad(Books::some, "slip", 1, many, 0);
            Refused.bad(Books::fresh, "slip", 12, many, 12);
        }
        for (int k : new int[] {-1, -2, 4, 12, NONE, MIN, MAX}) Refused.bad(Books::some, "slip", 3, 2, k);
        Refused.bad(Books::some, "slip", 1, 2, 2);
        Refused.bad(Books::some, "slip", 12, 2, 13);
    }

    /** Master 0 says of {} so many times that it is owed, so many times that it is not. */
    private static QuarrelBook torn(int owed, int not) {
        QuarrelBook x = new QuarrelBook();
        x.instance(0);
        x.instance(1);
        x.master(0, 99, NONE);
        for (int s = 0; s < owed; s++) x.saying(0, 0, 50, 1, NONE);
        for (int s = 0; s < not; s++) x.saying(0, 0, 50, 0, NONE);
        return x;
    }

    private static void runsAlike() {
        Check.about("RUNS: 0, 1, or 2 (alike); by how much by asked()");
        QuarrelBook one = torn(1, 0);
        Check.both("one saying: runs(0)", one, one.runs(0), 2, 0);
        QuarrelBook x = torn(2, 1);
        Check.both("three, one of which does not fit: runs(0)", x, x.runs(0), 2, 0);
        QuarrelBook y = torn(5, 4);
        Check.both("by two rules either way: runs(0)", y, y.runs(0), 2, 0);
        Check.both("by two rules either way: runs(8)", y, y.runs(8), 2, 0);
        y.prices(0, 0, 0);
        Check.both("for nothing: runs(8)", y, y.runs(8), 2, 0);
        y.prices(99, 99, 0);
        Check.both("two for nothing: runs(8)", y, y.runs(8), 2, 0);
    }

    private static void runsByTheOther() {
        Check.about("RUNS: by which answer of a SAYING its MASTER is SETTLED cheaper");
        QuarrelBook x = torn(2, 1);
        Check.both("owed by two: runs(2)", x, x.runs(2), 1, 3);
        QuarrelBook y = torn(1, 2);
        Check.both("not by two: runs(0)", y, y.runs(0), 0, 3);
        QuarrelBook z = torn(8, 0);
        Check.both("as it is said: runs(0)", z, z.runs(0), 1, 3);
        Check.both("the last one: runs(7)", z, z.runs(7), 1, 3);
        z.prices(99, 99, 99);
        Check.both("by 99: runs(7)", z, z.runs(7), 1, 99);
        z.saying(0, 0, 50, 0, NONE);
        Check.both("the ninth, by 99: runs(8)", z, z.runs(8), 1, 99);
        Check.both("99 by one or by two: runs(0)", z, z.runs(0), 2, 0);
        QuarrelBook both = torn(4, 2);
        both.prices(3, 5, 99);
        Check.both("two that do not fit, or one: runs(5)", both, both.runs(5), 1, 3);
        Check.both("two that do not fit, or three: runs(0)", both, both.runs(0), 1, 3);
    }

    private static void runsByWhatWasSaid() {
        Check.about("RUNS: by which answer of a SAYING, whatever its COPIES read");
        for (int answer = 0; answer < 2; answer++) {
            QuarrelBook x = torn(2, 1);
            for (int s = 0; s < 3; s++) {
                for (int copy = 0; copy < 5; copy++) x.reads(copy, s, answer);
            }
            Check.both("all read " + answer + ": runs(2)", x, x.runs(2), 1, 3);
            Check.both("all read " + answer + ": runs(0)", x, x.runs(0), 2, 0);
        }
    }

    private static void runsWithTheBecause() {
        Check.about("RUNS: by which answer of a SAYING: its because stays by either");
        QuarrelBook x = new QuarrelBook();
        x.instance(0);
        x.instance(1);
        x.master(0, 99, NONE);
        x.saying(0, 1, 50, 0, 0);
        x.saying(0, 0, 50, 1, NONE);
        // By always {a} could be owed for nothing, if nobody asked for a figure of a.
        Check.both("{a} because of a, {} is owed: runs(0)", x, x.runs(0), 0, 3);
        QuarrelBook y = new QuarrelBook();
        y.instance(0);
        y.instance(1);
        y.master(0, 99, NONE);
        y.saying(0, 1, 50, 1, 0);
        y.saying(0, 0, 50, 1, NONE);
        Check.both("the other way round: runs(0)", y, y.runs(0), 0, 3);
    }

    private static void runsLeavesTheSaying() {
        Check.about("37: (The SAYING stays.)");
        for (int s = 0; s < 24; s++) {
            QuarrelBook x = Books.full();
            QuarrelBook untouched = Books.full();
            x.runs(s);
            Check.due("digest() behind runs(" + s + ")", x.digest(), untouched.digest());
            Check.due("settle() behind it", x.settle(s / 9), untouched.settle(s / 9));
            Check.due("its rule", x.asked(), untouched.asked());
            Check.due("second() behind it", x.second(s / 9), untouched.second(s / 9));
            Check.due("cheap() behind it", x.cheap(s / 9), untouched.cheap(s / 9));
        }
    }

    private static void runsRefused() {
        Check.about("37: BAD");
        for (int s : NO_SAYING) Refused.bad(Books::some, "runs", s);
        Refused.bad(Books::fresh, "runs", 0);
        Refused.bad(Books::full, "runs", 24);
    }

    private static void moveOfEachKind() {
        Check.about("38: 1 another SAYING; 2, 4 a TRAIT; 3 a MASTER; 5 a year 0 .. 999: its number");
        int[][] moves = {{0, OBJECTION, 1}, {0, OBJECTION, 3}, {3, OBJECTION, 0}, {3, OBJECTION, 2}, {0, PARTED, 0},
            {3, PARTED, 4}, {0, AMENDED, 0}, {3, AMENDED, 4}, {0, HELD, 0}, {3, HELD, 2}, {0, TWO, 0}, {3, TWO, 999},
            {0, NOTE, 0}, {3, LEFT, 0}};
        QuarrelBook x = Books.some();
        for (int m = 0; m < moves.length; m++) {
            Check.due(Calls.named("move", moves[m]), x.move(moves[m][0], moves[m][1], moves[m][2]), 7 + m);
            Check.both("its kind", x, x.moved(7 + m, 0), 1, moves[m][1]);
            Check.both("its saying", x, x.moved(7 + m, 1), 1, moves[m][0]);
            Check.both("its v", x, x.moved(7 + m, 2), 1, moves[m][2]);
        }
    }

    private static void moveOfWhatIsNotLookedAt() {
        Check.about("38, 39: with v (0: not looked at; 6 not looked at); 2 v (0: not looked at)");
        for (int kind : new int[] {NOTE, LEFT}) {
            for (int v : new int[] {0, 1, -1, 5, 1000, NONE, MIN, MAX}) {
                QuarrelBook x = Books.some();
                Check.due(Calls.named("move", 1, kind, v), x.move(1, kind, v), 7);
                Check.both("moved(7, 0)", x, x.moved(7, 0), 1, kind);
                Check.both("moved(7, 1)", x, x.moved(7, 1), 1, 1);
                Check.both("moved(7, 2)", x, x.moved(7, 2), 1, 0);
            }
        }
    }

    private static final int[][] WRONG_MOVES = {{OBJECTION, -1}, {OBJECTION, 24}, {OBJECTION, NONE}, {OBJECTION, MIN},
        {OBJECTION, MAX}, {PARTED, -1}, {PARTED, 5}, {PARTED, NONE}, {PARTED, MIN}, {PARTED, MAX}, {HELD, -1},
        {HELD, 8}, {HELD, NONE}, {HELD, MIN}, {HELD, MAX}, {AMENDED, -1}, {AMENDED, 5}, {AMENDED, NONE}, {AMENDED, MIN},
        {AMENDED, MAX}, {TWO, -1}, {TWO, 1000}, {TWO, NONE}, {TWO, MIN}, {TWO, MAX}, {-1, 0}, {7, 0}, {NONE, 0},
        {MIN, 0}, {MAX, 0}};

    private static void moveOfAWrongNumber() {
        Check.about("38: BAD");
        for (int[] wrong : WRONG_MOVES) {
            Refused.bad(Books::some, "move", 0, wrong[0], wrong[1]);
            Refused.bad(Books::some, "move", 3, wrong[0], wrong[1]);
        }
        Refused.bad(Books::some, "move", 0, OBJECTION, 4);
        Refused.bad(Books::some, "move", 0, HELD, 3);
        for (int s = 0; s < 4; s++) Refused.bad(Books::some, "move", s, OBJECTION, s);
        for (int s : NO_SAYING) {
            for (int kind = NOTE; kind <= LEFT; kind++) Refused.bad(Books::some, "move", s, kind, 0);
        }
        Refused.bad(Books::fresh, "move", 0, NOTE, 0);
    }

    private static void movesAre40AtMost() {
        Check.about("MOVES 0, 1, .. (40 at most ever)");
        QuarrelBook x = torn(1, 1);
        for (int m = 0; m < 40; m++) Check.due("move " + m, x.move(m % 2, OBJECTION, 1 - m % 2), m);
        Check.due("a 41st", x.move(0, OBJECTION, 1), FULL);
        Check.due("count(3)", x.count(3), 40);
        Check.due("count(4)", x.count(4), 40);
        Check.both("moved(39, 1)", x, x.moved(39, 1), 1, 1);
        Check.due("count(3) of a full book", Books.full().count(3), 40);
        int[][] right = {{NOTE, MIN}, {OBJECTION, 23}, {PARTED, 4}, {HELD, 7}, {AMENDED, 0}, {TWO, 999}, {LEFT, MAX}};
        for (int[] one : right) Refused.full(Books::full, "move", 0, one[0], one[1]);
        Check.about("38: BAD ahead of FULL");
        for (int[] wrong : WRONG_MOVES) Refused.bad(Books::full, "move", 23, wrong[0], wrong[1]);
        Refused.bad(Books::full, "move", 23, OBJECTION, 23);
        for (int s : new int[] {-1, 24, MIN, MAX}) Refused.bad(Books::full, "move", s, NOTE, 0);
    }

    private static void movedEdges() {
        Check.about("39: Of a MOVE: 0 its KIND, 1 the SAYING, 2 v");
        QuarrelBook x = Books.some();
        int[][] want = {{0, 0, 0}, {1, 0, 1}, {2, 0, 1}, {3, 1, 0}, {4, 1, 4}, {5, 0, 35}, {6, 2, 0}};
        for (int m = 0; m < 7; m++) {
            for (int what = 0; what < 3; what++) {
                Check.both(Calls.named("moved", m, what), x, x.moved(m, what), 1, want[m][what]);
            }
        }
    }

    private static void movedRefused() {
        Check.about("39: BAD");
        for (int m : new int[] {-1, 7, 39, 40, NONE, MIN, MAX}) Refused.bad(Books::some, "moved", m, 0);
        for (int what : new int[] {-1, 3, NONE, MIN, MAX}) Refused.bad(Books::some, "moved", 0, what);
        Refused.bad(Books::fresh, "moved", 0, 0);
        Refused.bad(Books::full, "moved", 40, 0);
        Refused.bad(Books::full, "moved", 39, 3);
    }

    private static void markOfEachKind() {
        Check.about("40: What a MOVE that IS of a KIND tells");
        QuarrelBook x = Books.some();
        // Of {a} and {a, b}; b in {a}; by not b, rule 6, of {a, b}; {a, b} with e; of 30 and 40 from 35 on; {} owed.
        int[] want = {0, 1, 0, 0, 19, 1, 0};
        Check.both("settle(0)", x, x.settle(0), 0, 6);
        for (int kind = OBJECTION; kind <= LEFT; kind++) {
            Check.due(Calls.named("mark", kind, kind), x.mark(kind, kind), want[kind]);
        }
        Check.due("asked() is not told by mark()", x.asked(), 6);
    }

    private static int marked(QuarrelBook x, int s, int kind, int v) {
        return x.mark(x.move(s, kind, v), kind);
    }

    /** Master 0 says {} in 0, all and {} in 999, each owed; master 1 says nothing. */
    private static QuarrelBook ofNoneAndAll() {
        QuarrelBook x = new QuarrelBook();
        x.instance(0);
        x.instance(31);
        x.instance(0);
        x.master(0, 999, NONE);
        x.master(0, 999, NONE);
        for (int c = 0; c < 3; c++) x.saying(0, c, c == 0 ? 0 : 999, 1, NONE);
        return x;
    }

    private static void markOfAnObjection() {
        Check.about("40: an OBJECTION how many TRAITS part both CASES: 0 .. 5");
        Check.due("all five", marked(ofNoneAndAll(), 0, OBJECTION, 1), 5);
        Check.due("none", marked(ofNoneAndAll(), 0, OBJECTION, 2), 0);
    }

    private static void markOfParted() {
        Check.about("40: a PARTED one whether the TRAIT is in the SAYING's CASE (1, 0)");
        for (int trait = 0; trait < 5; trait++) {
            Check.due(trait + " of none", marked(ofNoneAndAll(), 0, PARTED, trait), 0);
            Check.due(trait + " of all", marked(ofNoneAndAll(), 1, PARTED, trait), 1);
        }
    }

    private static void markOfHeld() {
        Check.about("40: a HELD one what the MASTER's (lesser) RULE answers its CASE");
        Check.due("on always, of one without sayings", marked(ofNoneAndAll(), 0, HELD, 1), 1);
        QuarrelBook x = torn(5, 4);
        Check.due("second(0)", x.second(0), 1);
        Check.due("on the lesser one, of a saying that it does not fit", marked(x, 8, HELD, 0), 1);
    }

    private static void markOfAmended() {
        Check.about("40: an AMENDED one the TRAITS read so");
        for (int trait = 0; trait < 5; trait++) {
            Check.due(trait + " more", marked(ofNoneAndAll(), 0, AMENDED, trait), 1 << trait);
            Check.due(trait + " less", marked(ofNoneAndAll(), 1, AMENDED, trait), 31 - (1 << trait));
        }
    }

    private static void markOfTwo() {
        Check.about("40: a TWO one how many SAYINGS of the SAYING's MASTER are from the year on");
        int[][] years = {{0, 3}, {1, 2}, {998, 2}, {999, 2}};
        for (int[] one : years) Check.due("from " + one[0] + " on", marked(ofNoneAndAll(), 1, TWO, one[0]), one[1]);
        QuarrelBook x = ofNoneAndAll();
        x.saying(1, 0, 500, 1, NONE);
        Check.due("of his own alone", marked(x, 3, TWO, 0), 1);
        Check.due("none", marked(x, 3, TWO, 501), 0);
    }

    private static void markOfLeft() {
        Check.about("40: a LEFT one what the SAYING costs by its MASTER's (lesser) RULE");
        QuarrelBook x = torn(5, 4);
        Check.due("second(0)", x.second(0), 1);
        Check.due("it fits the lesser one", marked(x, 0, LEFT, 0), 0);
        Check.due("it fits the greater one alone, and always can't be amended", marked(x, 8, LEFT, 0), 5);
    }

    private static void markOfAnotherKind() {
        Check.about("40: UNLIKE (a MOVE of another KIND)");
        for (int m = 0; m < 7; m++) {
            for (int kind = OBJECTION; kind <= LEFT; kind++) {
                if (m != kind) Refused.finds(Refused.UNLIKE, Books::some, "mark", m, kind);
            }
        }
    }

    private static void markRefused() {
        Check.about("40: BAD: also KIND 0; ahead of UNLIKE");
        for (int m = 0; m < 7; m++) {
            for (int kind : new int[] {NOTE, -1, 7, NONE, MIN, MAX}) Refused.bad(Books::some, "mark", m, kind);
        }
        for (int m : new int[] {-1, 7, 39, 40, NONE, MIN, MAX}) {
            for (int kind = NOTE; kind <= LEFT; kind++) Refused.bad(Books::some, "mark", m, kind);
        }
        Refused.bad(Books::fresh, "mark", 0, OBJECTION);
        Refused.bad(Books::full, "mark", 40, OBJECTION);
    }

    private static void followWithoutMoves() {
        Check.about("41: how many OBJECTIONS are open; how many MOVES are IDLE by asked(): none");
        QuarrelBook x = new QuarrelBook();
        x.told(0, 0);
        Check.both("follow() of a new book", x, x.follow(), 0, 0);
        QuarrelBook y = torn(1, 1);
        for (int m = 0; m < 40; m++) y.move(0, NOTE, m);
        Check.both("follow() of forty notes", y, y.follow(), 0, 0);
    }

    private static void followOf40() {
        Check.about("41: FOLLOWING all MOVES: 40 at most");
        QuarrelBook x = torn(1, 1);
        for (int m = 0; m < 40; m++) x.move(0, OBJECTION, 1);
        Check.both("forty objections", x, x.follow(), 40, 0);
        for (int kind = PARTED; kind <= LEFT; kind++) {
            QuarrelBook y = torn(1, 1);
            for (int m = 0; m < 40; m++) y.move(0, kind, 0);
            Check.both("forty of kind " + kind, y, y.follow(), 0, 40);
        }
        QuarrelBook z = torn(1, 1);
        for (int m = 0; m < 20; m++) z.move(0, OBJECTION, 1);
        for (int m = 0; m < 19; m++) z.move(0, LEFT, 0);
        Check.both("twenty, nineteen left", z, z.follow(), 1, 0);
        z.move(0, LEFT, 0);
        Check.both("twenty, twenty left", z, z.follow(), 0, 0);
        Check.both("followed again", z, z.follow(), 0, 0);
        QuarrelBook last = torn(1, 1);
        for (int m = 0; m < 39; m++) last.move(0, LEFT, 0);
        last.move(0, OBJECTION, 1);
        Check.both("39 idle ones, and the last is an objection", last, last.follow(), 1, 39);
    }

    private static void followTheLastOpenOne() {
        Check.about("PARTED answers the last open one about that SAYING");
        QuarrelBook x = torn(1, 1);
        x.saying(0, 1, 50, 1, NONE);
        x.move(0, OBJECTION, 2);
        x.move(0, OBJECTION, 1);
        x.move(0, PARTED, 0);
        // {} and {a} are parted by a, {} and {} are not: the last open one is not answered, the one ahead is not asked.
        Check.both("the one ahead is not looked at", x, x.follow(), 2, 1);
        x.move(0, LEFT, 0);
        x.move(0, PARTED, 0);
        Check.both("with the last closed it is the last", x, x.follow(), 0, 1);
        x.move(0, PARTED, 0);
        Check.both("what is closed is answered no more", x, x.follow(), 0, 2);
        x.move(0, OBJECTION, 2);
        Check.both("an OBJECTION is open (whatever was)", x, x.follow(), 1, 2);
    }

    private static void followWhatIsAboutAnother() {
        Check.about("the last open one about that SAYING; what closes none is IDLE");
        QuarrelBook x = torn(1, 1);
        x.move(0, OBJECTION, 1);
        x.move(1, LEFT, 0);
        Check.both("left about the other one", x, x.follow(), 1, 1);
        x.move(1, OBJECTION, 0);
        x.move(0, LEFT, 0);
        Check.both("the first, though the other is later", x, x.follow(), 1, 1);
        x.move(1, LEFT, 0);
        Check.both("the other too", x, x.follow(), 0, 1);
    }

    /** An objection by saying 1 to saying 0, and a move about saying 0: whether it closes it. */
    private static void closes(String name, Supplier<QuarrelBook> begun, int kind, int v, boolean closes) {
        QuarrelBook x = begun.get();
        x.move(0, OBJECTION, 1);
        x.move(0, kind, v);
        Check.both(name, x, x.follow(), closes ? 0 : 1, closes ? 0 : 1);
    }

    /** Saying 0 of master 0, saying 1 of master 0 or 1; master 2 says nothing. */
    private static Supplier<QuarrelBook> two(int[] one, int otherMaster, int[] other) {
        return () -> {
            QuarrelBook x = new QuarrelBook();
            for (int m = 0; m < 3; m++) x.master(0, 999, NONE);
            x.saying(0, x.instance(one[0]), one[1], one[2], one[3]);
            x.saying(otherMaster, x.instance(other[0]), other[1], other[2], other[3]);
            return x;
        };
    }

    private static int[] said(int traits, int year, int answer, int because) {
        return new int[] {traits, year, answer, because};
    }

    private static void followParted() {
        Check.about("PARTED, if the TRAIT is in just one of both CASES");
        for (int trait = 0; trait < 5; trait++) {
            int bit = 1 << trait;
            closes("in the first", two(said(bit, 5, 1, NONE), 1, said(0, 5, 1, NONE)), PARTED, trait, true);
            closes("in the other", two(said(0, 5, 1, NONE), 1, said(bit, 5, 1, NONE)), PARTED, trait, true);
            closes("in both", two(said(31, 5, 1, NONE), 1, said(bit, 5, 1, NONE)), PARTED, trait, false);
            closes("in none", two(said(0, 5, 1, NONE), 1, said(31 - bit, 5, 1, NONE)), PARTED, trait, false);
        }
    }

    private static void followHeld() {
        Check.about("HELD, if his RULE (lesser) lets the other SAYING's answer stand for its CASE");
        closes("without sayings: always", two(said(0, 5, 1, NONE), 1, said(0, 5, 1, NONE)), HELD, 2, true);
        closes("without sayings: not", two(said(0, 5, 1, NONE), 1, said(0, 5, 0, NONE)), HELD, 2, false);
        closes("its because is not looked at", two(said(0, 5, 1, NONE), 1, said(0, 5, 1, 4)), HELD, 2, true);
        closes("of the other one's master", two(said(0, 5, 1, NONE), 1, said(0, 5, 0, NONE)), HELD, 1, true);
        closes("its own case is not looked at", two(said(1, 5, 1, NONE), 1, said(0, 5, 0, NONE)), HELD, 1, true);
        closes("its own answer is not looked at", two(said(1, 5, 1, NONE), 1, said(0, 5, 0, NONE)), HELD, 0, false);
        closes("of its own master", two(said(0, 5, 1, NONE), 1, said(0, 5, 0, NONE)), HELD, 0, false);
    }

    private static void followAmended() {
        Check.about("AMENDED, if the SAYING read so FITS a CHEAP RULE of the other one's MASTER");
        int[] none = said(0, 5, 1, NONE);
        int[] a = said(1, 5, 1, NONE);
        closes("{} read as {a}, by rules without {}", two(none, 1, said(0, 5, 0, NONE)), AMENDED, 0, true);
        closes("{} read as {e}, by rules without {}", two(none, 1, said(0, 5, 0, NONE)), AMENDED, 4, true);
        closes("{} read as {a}, by rules without {a}", two(none, 1, said(1, 5, 0, NONE)), AMENDED, 0, false);
        closes("{} read as {e}, by rules without {e}", two(none, 1, said(16, 5, 0, NONE)), AMENDED, 4, false);
        closes("{a} read as {}, by rules without {a}", two(a, 1, said(1, 5, 0, NONE)), AMENDED, 0, true);
        closes("{a} read as {}, by rules without {}", two(a, 1, said(0, 5, 0, NONE)), AMENDED, 0, false);
        Supplier<QuarrelBook> alwaysAlone = () -> {
            QuarrelBook x = two(a, 1, none).get();
            x.saying(1, x.instance(31), 5, 1, NONE);
            return x;
        };
        closes("{a} read as {}, by always alone", alwaysAlone, AMENDED, 0, true);
    }

    private static void followTwo() {
        Check.about("TWO, if the year parts both SAYINGS (of one MASTER: one is ahead of it, the other not)");
        for (int[] years : new int[][] {{0, 999}, {999, 0}}) {
            Supplier<QuarrelBook> ofOne = two(said(0, years[0], 1, NONE), 0, said(0, years[1], 1, NONE));
            closes("from 0 on", ofOne, TWO, 0, false);
            closes("from 1 on", ofOne, TWO, 1, true);
            closes("from 999 on", ofOne, TWO, 999, true);
            Supplier<QuarrelBook> ofTwo = two(said(0, years[0], 1, NONE), 1, said(0, years[1], 1, NONE));
            closes("of two masters", ofTwo, TWO, 500, false);
        }
        Supplier<QuarrelBook> sameYear = two(said(0, 500, 1, NONE), 0, said(0, 500, 1, NONE));
        for (int year : new int[] {0, 499, 500, 501, 999}) closes("in the same year", sameYear, TWO, year, false);
    }

    private static void followLeft() {
        Check.about("LEFT closes it");
        Supplier<QuarrelBook> sameYear = two(said(0, 500, 1, NONE), 0, said(0, 500, 1, NONE));
        for (int v : new int[] {0, MIN, MAX}) closes("left", sameYear, LEFT, v, true);
    }
}
