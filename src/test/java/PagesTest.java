/** Promises 32 to 41: years, copies, moves. */
public final class PagesTest {
    private static final int BAD = QuarrelBook.BAD, FULL = QuarrelBook.FULL, NONE = QuarrelBook.NONE;
    private static final int UNLIKE = 3;
    private static final int NOTE = 0, OBJECTION = 1, PARTED = 2, HELD = 3, AMENDED = 4, TWO = 5, LEFT = 6;

    public static void main(String[] args) {
        met();
        can();
        reads();
        reading();
        slip();
        runs();
        runsWithTwoRules();
        move();
        moved();
        mark();
        markRefused();
        followParted();
        followHeld();
        followAmended();
        followTwo();
        followLeft();
        followOrder();
        Check.finish();
    }

    private static void met() {
        QuarrelBook x = new QuarrelBook();
        x.master(0, 50, NONE);
        x.master(35, 60, NONE);
        x.master(36, 60, NONE);
        x.master(100, 114, NONE);
        x.master(100, 115, NONE);
        x.master(0, 999, NONE);
        Check.due("met(0, 1)", x.met(0, 1), 1);
        Check.due("met(1, 0)", x.met(1, 0), 1);
        Check.due("met(0, 2)", x.met(0, 2), 0);
        Check.due("met(1, 2)", x.met(1, 2), 10);
        Check.due("met(3, 3)", x.met(3, 3), 0);
        Check.due("met(4, 4)", x.met(4, 4), 1);
        Check.due("met(3, 5)", x.met(3, 5), 0);
        Check.due("met(4, 5)", x.met(4, 5), 1);
        Check.due("met(5, 5)", x.met(5, 5), 985);
        Check.due("met(0, 6)", x.met(0, 6), BAD);
        Check.due("met(6, 0)", x.met(6, 0), BAD);
        Check.due("met(-1, 0)", x.met(-1, 0), BAD);
        Check.due("met(0, -1)", x.met(0, -1), BAD);
    }

    private static void can() {
        QuarrelBook x = new QuarrelBook();
        Check.due("can(1) without masters", x.can(1), BAD);
        x.instance(0);
        x.master(0, 200, NONE);
        x.master(0, 200, NONE);
        x.master(0, 200, NONE);
        Check.both("can(7)", x, x.can(7), 1, 0);
        x.saying(0, 0, 100, 1, NONE);
        x.saying(1, 0, 30, 1, NONE);
        Check.both("can(1)", x, x.can(1), 1, 0);
        Check.both("can(3): 70", x, x.can(3), 1, 70);
        x.saying(2, 0, 101, 1, NONE);
        Check.both("can(5)", x, x.can(5), 1, 1);
        Check.both("can(6): 71", x, x.can(6), 0, 71);
        Check.both("can(7): 71", x, x.can(7), 0, 71);
        Check.due("can(0)", x.can(0), BAD);
        Check.due("can(8)", x.can(8), BAD);
        Check.due("can(-1)", x.can(-1), BAD);
        Check.due("can(MIN)", x.can(Integer.MIN_VALUE), BAD);
        Check.due("asked() stays", x.asked(), 71);
    }

    private static QuarrelBook withTwoSayings() {
        QuarrelBook x = new QuarrelBook();
        x.instance(1);
        x.master(0, 99, NONE);
        x.saying(0, 0, 1, 1, NONE);
        x.saying(0, 0, 1, 0, NONE);
        return x;
    }

    private static void reads() {
        QuarrelBook x = withTwoSayings();
        for (int c = 0; c < 5; c++) Check.due("reads(" + c + ", 0, 1)", x.reads(c, 0, 1), NONE);
        Check.due("reads(4, 0, 0)", x.reads(4, 0, 0), 1);
        Check.due("reads(4, 0, NONE)", x.reads(4, 0, NONE), 0);
        Check.due("reads(4, 0, NONE)", x.reads(4, 0, NONE), NONE);
        Check.due("reads(4, 1, 0)", x.reads(4, 1, 0), NONE);
        Check.due("reads(3, 0, 1)", x.reads(3, 0, 1), 1);
        Check.due("reads(5, 0, 1)", x.reads(5, 0, 1), BAD);
        Check.due("reads(-1, 0, 1)", x.reads(-1, 0, 1), BAD);
        Check.due("reads(0, 2, 1)", x.reads(0, 2, 1), BAD);
        Check.due("reads(0, -1, 1)", x.reads(0, -1, 1), BAD);
        Check.due("reads(0, 0, 2)", x.reads(0, 0, 2), BAD);
        Check.due("reads(0, 0, -1)", x.reads(0, 0, -1), BAD);
        Check.due("reads(0, 0, 1) finds what it was", x.reads(0, 0, 1), 1);
        Check.due("asked() is not told by reads()", x.asked(), 0);
    }

    private static void reading() {
        QuarrelBook x = withTwoSayings();
        Check.both("no copies: reading(0)", x, x.reading(0), 1, 0);
        Check.both("no copies: reading(1)", x, x.reading(1), 0, 0);
        for (int s = 0; s < 2; s++) {
            x.reads(0, s, 0);
            Check.both("0: reading(" + s + ")", x, x.reading(s), 0, 1);
            x.reads(4, s, 1);
            Check.both("0, 1: reading(" + s + ")", x, x.reading(s), 1 - s, 2);
            x.reads(2, s, 1);
            Check.both("0, 1, 1: reading(" + s + ")", x, x.reading(s), 1, 3);
            x.reads(4, s, NONE);
            x.reads(2, s, NONE);
            x.reads(0, s, NONE);
            Check.both("none again: reading(" + s + ")", x, x.reading(s), 1 - s, 0);
        }
        x.reads(0, 0, 0);
        Check.both("told(0, 3) stays", x, x.told(0, 3), 1, 1);
        Check.due("reading(2)", x.reading(2), BAD);
        Check.due("reading(-1)", x.reading(-1), BAD);
    }

    private static void odds(QuarrelBook x, int n, int many, int k, long upper, long lower) {
        String call = "slip(" + n + ", " + many + ", " + k + ")";
        Check.due(call, x.slip(n, many, k), 1);
        Check.due("upper() of " + call, x.upper(), upper);
        Check.due("lower() of " + call, x.lower(), lower);
    }

    private static void slip() {
        QuarrelBook x = new QuarrelBook();
        odds(x, 1, 2, 1, 1, 2);
        odds(x, 1, 9, 0, 1, 1);
        odds(x, 3, 2, 2, 1, 2);
        odds(x, 2, 4, 1, 7, 16);
        odds(x, 3, 6, 2, 2, 27);
        odds(x, 12, 9, 12, 1, 282429536481L);
        odds(x, 12, 9, 1, 282429536481L - 68719476736L, 282429536481L);
        Check.due("slip(0, 2, 0)", x.slip(0, 2, 0), BAD);
        Check.due("slip(13, 2, 0)", x.slip(13, 2, 0), BAD);
        Check.due("slip(3, 1, 0)", x.slip(3, 1, 0), BAD);
        Check.due("slip(3, 10, 0)", x.slip(3, 10, 0), BAD);
        Check.due("slip(3, 2, -1)", x.slip(3, 2, -1), BAD);
        Check.due("slip(3, 2, 4)", x.slip(3, 2, 4), BAD);
        Check.due("upper() stays", x.upper(), 282429536481L - 68719476736L);
        Check.due("asked() is not told by slip()", x.asked(), 0);
    }

    private static void runs() {
        QuarrelBook x = new QuarrelBook();
        x.instance(1);
        x.master(0, 99, NONE);
        x.saying(0, 0, 1, 1, NONE);
        Check.both("alike: runs(0)", x, x.runs(0), 2, 0);
        x.saying(0, 0, 1, 1, NONE);
        x.saying(0, 0, 1, 0, NONE);
        Check.both("owed is cheaper: runs(2)", x, x.runs(2), 1, 3);
        Check.both("as cheap: runs(0)", x, x.runs(0), 2, 0);
        Check.both("told(2, 3) stays", x, x.told(2, 3), 1, 0);
        Check.both("settle(0) stays", x, x.settle(0), 3, 1);
        x.saying(0, 0, 1, 0, NONE);
        x.saying(0, 0, 1, 0, NONE);
        x.saying(0, 0, 1, 0, NONE);
        Check.both("not is cheaper: runs(0)", x, x.runs(0), 0, 3);
        Check.due("runs(6)", x.runs(6), BAD);
        Check.due("runs(-1)", x.runs(-1), BAD);
    }

    private static void runsWithTwoRules() {
        QuarrelBook x = new QuarrelBook();
        x.instance(0);
        x.master(0, 99, NONE);
        for (int s = 0; s < 9; s++) x.saying(0, 0, 10, s < 6 ? 1 : 0, NONE);
        // Three that do not fit cost 9, two 6; by two rules at most 7.
        Check.both("runs(8)", x, x.runs(8), 1, 1);
        Check.both("runs(0)", x, x.runs(0), 2, 0);
    }

    /**
     * Cases {a}, {a, b}, {}. Master 0 says {a} owed in 50, {a, b} not in 60: settled by not b, rule 6. Master 1 says
     * {a} not in 50, {} not in 80: settled by b, rule 3. Master 2 says nothing.
     */
    private static QuarrelBook withPage() {
        QuarrelBook x = new QuarrelBook();
        x.instance(1);
        x.instance(3);
        x.instance(0);
        for (int m = 0; m < 3; m++) x.master(0, 100, NONE);
        x.saying(0, 0, 50, 1, NONE);
        x.saying(0, 1, 60, 0, NONE);
        x.saying(1, 0, 50, 0, NONE);
        x.saying(1, 2, 80, 0, NONE);
        return x;
    }

    private static void move() {
        QuarrelBook x = withPage();
        int[][] bad = {{-1, 0, 0}, {4, 0, 0}, {0, -1, 0}, {0, 7, 0}, {0, 1, 0}, {0, 1, 4}, {0, 1, -1}, {0, 2, 5},
            {0, 2, -1}, {0, 3, 3}, {0, 3, -1}, {0, 4, 5}, {0, 4, -1}, {0, 5, 1000}, {0, 5, -1}};
        for (int[] one : bad) {
            String call = "move(" + one[0] + ", " + one[1] + ", " + one[2] + ")";
            Check.due(call, x.move(one[0], one[1], one[2]), BAD);
        }
        int[][] good = {{0, 0, -7}, {0, 6, 9999}, {3, 1, 2}, {2, 2, 0}, {0, 2, 4}, {0, 3, 2}, {0, 4, 0}, {1, 4, 4},
            {0, 5, 0}, {0, 5, 999}, {0, 1, 3}};
        for (int m = 0; m < good.length; m++) {
            String call = "move(" + good[m][0] + ", " + good[m][1] + ", " + good[m][2] + ")";
            Check.due(call, x.move(good[m][0], good[m][1], good[m][2]), m);
        }
        Check.due("count(3)", x.count(3), 11);
        Check.due("count(4)", x.count(4), 2);
        for (int m = good.length; m < 40; m++) Check.due("move " + m, x.move(0, NOTE, 0), m);
        Check.due("a 41st", x.move(0, NOTE, 0), FULL);
        Check.due("a wrong 41st: bad ahead of full", x.move(0, OBJECTION, 0), BAD);
        Check.due("count(3)", x.count(3), 40);
    }

    private static void moved() {
        QuarrelBook x = withPage();
        x.move(3, NOTE, 17);
        x.move(2, OBJECTION, 1);
        x.move(1, TWO, 999);
        x.move(1, LEFT, 4);
        int[][] want = {{NOTE, 3, 0}, {OBJECTION, 2, 1}, {TWO, 1, 999}, {LEFT, 1, 0}};
        for (int m = 0; m < 4; m++) {
            for (int what = 0; what < 3; what++) {
                Check.both("moved(" + m + ", " + what + ")", x, x.moved(m, what), 1, want[m][what]);
            }
        }
        Check.due("moved(4, 0)", x.moved(4, 0), BAD);
        Check.due("moved(-1, 0)", x.moved(-1, 0), BAD);
        Check.due("moved(0, 3)", x.moved(0, 3), BAD);
        Check.due("moved(0, -1)", x.moved(0, -1), BAD);
    }

    private static int marked(QuarrelBook x, int s, int kind, int v) {
        return x.mark(x.move(s, kind, v), kind);
    }

    private static void mark() {
        QuarrelBook x = withPage();
        Check.both("settle(0)", x, x.settle(0), 0, 6);
        Check.both("settle(1)", x, x.settle(1), 0, 3);
        Check.due("an objection, {a, b} to {}", marked(x, 1, OBJECTION, 3), 2);
        Check.due("an objection, {a} to {a}", marked(x, 0, OBJECTION, 2), 0);
        Check.due("parted by a of {a}", marked(x, 0, PARTED, 0), 1);
        Check.due("parted by b of {a}", marked(x, 0, PARTED, 1), 0);
        Check.due("parted by b of {a, b}", marked(x, 1, PARTED, 1), 1);
        Check.due("held on not b of {a}", marked(x, 0, HELD, 0), 1);
        Check.due("held on not b of {a, b}", marked(x, 1, HELD, 0), 0);
        Check.due("held on b of {a, b}", marked(x, 1, HELD, 1), 1);
        Check.due("held on one who is silent", marked(x, 3, HELD, 2), 1);
        Check.due("amended: {a} with b", marked(x, 0, AMENDED, 1), 3);
        Check.due("amended: {a} without a", marked(x, 0, AMENDED, 0), 0);
        Check.due("amended: {} with e", marked(x, 3, AMENDED, 4), 16);
        Check.due("two from 50 on", marked(x, 1, TWO, 50), 2);
        Check.due("two from 0 on", marked(x, 1, TWO, 0), 2);
        Check.due("two from 51 on", marked(x, 0, TWO, 51), 1);
        Check.due("two from 61 on", marked(x, 0, TWO, 61), 0);
        int left = x.move(1, LEFT, 0);
        Check.due("left, and fits", x.mark(left, LEFT), 0);
        for (int s = 0; s < 3; s++) x.saying(0, 1, 60, 1, NONE);
        Check.both("settle(0) by {a, b} owed", x, x.settle(0), 3, 1);
        Check.due("left, and does not fit", x.mark(left, LEFT), 3);
        x.prices(9, 4, 9);
        Check.due("left, at another price", x.mark(left, LEFT), 4);
    }

    private static void markRefused() {
        QuarrelBook x = withPage();
        x.move(0, NOTE, 0);
        x.move(0, OBJECTION, 1);
        x.told(3, 2);
        Check.due("mark(2, 1)", x.mark(2, OBJECTION), BAD);
        Check.due("mark(-1, 1)", x.mark(-1, OBJECTION), BAD);
        Check.due("mark(0, 0)", x.mark(0, NOTE), BAD);
        Check.due("mark(0, 7)", x.mark(0, 7), BAD);
        Check.due("mark(0, -1)", x.mark(0, -1), BAD);
        Check.due("finding() of what is bad", x.finding(), 0);
        for (int kind = OBJECTION; kind <= LEFT; kind++) {
            Check.finds("mark(0, " + kind + ")", x, x.mark(0, kind), UNLIKE);
        }
        for (int kind = PARTED; kind <= LEFT; kind++) {
            Check.finds("mark(1, " + kind + ")", x, x.mark(1, kind), UNLIKE);
        }
        Check.due("asked() is not told by mark()", x.asked(), 80);
    }

    /** One objection and one move about a saying: whether it is answered. */
    private static void answered(String claim, int about, int other, int kind, int v, boolean is) {
        QuarrelBook x = withPage();
        x.move(about, OBJECTION, other);
        Check.both(claim + ": an open one", x, x.follow(), 1, 0);
        x.move(about, kind, v);
        Check.both(claim + ": follow()", x, x.follow(), is ? 0 : 1, is ? 0 : 1);
        Check.both(claim + ": follow() again", x, x.follow(), is ? 0 : 1, is ? 0 : 1);
    }

    private static void followParted() {
        answered("{a} and {a, b} by b", 0, 1, PARTED, 1, true);
        answered("{a, b} and {a} by b", 1, 0, PARTED, 1, true);
        answered("{a} and {a, b} by a, in both", 0, 1, PARTED, 0, false);
        answered("{a} and {a, b} by c, in none", 0, 1, PARTED, 2, false);
    }

    private static void followHeld() {
        answered("{a} not on b", 0, 2, HELD, 1, true);
        answered("{a} not on not b", 0, 2, HELD, 0, false);
        answered("{a} not on always", 0, 2, HELD, 2, false);
        // The rule is asked for the other saying's case, not for that of the one it is about.
        answered("{a, b} not on not b", 0, 1, HELD, 0, true);
        answered("{a, b} not on b", 0, 1, HELD, 1, false);
    }

    private static void followAmended() {
        answered("{} owed, by rules of master 1", 0, 2, AMENDED, 0, false);
        answered("{a, b} owed, by rules of master 1", 0, 2, AMENDED, 1, true);
        answered("{a, b} owed, by rules of master 0", 0, 1, AMENDED, 1, false);
        answered("{a, c} owed, by rules of master 0", 0, 1, AMENDED, 2, true);
        answered("{} not, by rules of master 0", 2, 0, AMENDED, 0, true);
        QuarrelBook x = withPage();
        int because = x.saying(2, 0, 5, 1, 2);
        x.move(because, OBJECTION, 1);
        // Some cheap rule of master 0 must look at c, its because, too: not b with c or not c.
        x.move(because, AMENDED, 4);
        Check.both("with a because: follow()", x, x.follow(), 0, 0);
        QuarrelBook y = new QuarrelBook();
        y.instance(0);
        y.instance(31);
        y.master(0, 9, NONE);
        y.master(0, 9, NONE);
        y.saying(0, 0, 1, 1, NONE);
        y.saying(0, 1, 1, 1, NONE);
        y.saying(1, 0, 1, 1, 3);
        y.saying(1, 0, 1, 1, NONE);
        // Master 0 has no cheap rule but always, which looks at nothing.
        y.move(2, OBJECTION, 0);
        y.move(2, AMENDED, 0);
        Check.both("with a because that is not looked at: follow()", y, y.follow(), 1, 1);
        y.move(3, OBJECTION, 0);
        y.move(3, AMENDED, 0);
        Check.both("without a because: follow()", y, y.follow(), 1, 1);
    }

    private static void followTwo() {
        answered("50 and 60 from 55 on", 0, 1, TWO, 55, true);
        answered("50 and 60 from 60 on", 0, 1, TWO, 60, true);
        answered("50 and 60 from 51 on", 0, 1, TWO, 51, true);
        answered("60 and 50 from 51 on", 1, 0, TWO, 51, true);
        answered("50 and 60 from 50 on", 0, 1, TWO, 50, false);
        answered("50 and 60 from 61 on", 0, 1, TWO, 61, false);
        answered("50 and 80 of two masters", 0, 3, TWO, 60, false);
    }

    private static void followLeft() {
        answered("left", 0, 1, LEFT, 0, true);
        QuarrelBook x = withPage();
        Check.both("no moves: follow()", x, x.follow(), 0, 0);
        x.move(0, LEFT, 0);
        Check.both("left ahead of the objection: follow()", x, x.follow(), 0, 1);
        x.move(0, OBJECTION, 1);
        x.move(0, NOTE, 1);
        Check.both("an objection, a note: follow()", x, x.follow(), 1, 1);
        x.move(1, LEFT, 0);
        Check.both("left about another one: follow()", x, x.follow(), 1, 2);
        x.move(0, LEFT, 0);
        Check.both("left: follow()", x, x.follow(), 0, 2);
        x.move(0, LEFT, 0);
        Check.both("left twice: follow()", x, x.follow(), 0, 3);
        x.move(0, OBJECTION, 1);
        Check.both("open again: follow()", x, x.follow(), 1, 3);
    }

    private static void followOrder() {
        QuarrelBook x = withPage();
        x.move(0, OBJECTION, 1);
        x.move(0, OBJECTION, 2);
        x.move(0, PARTED, 1);
        Check.both("only the last open one is looked at: follow()", x, x.follow(), 2, 1);
        x.move(1, OBJECTION, 0);
        x.move(0, LEFT, 0);
        Check.both("the last one about it is left: follow()", x, x.follow(), 2, 1);
        x.move(0, PARTED, 1);
        Check.both("then the first one is parted: follow()", x, x.follow(), 1, 1);
        x.move(0, OBJECTION, 1);
        x.move(0, OBJECTION, 1);
        Check.both("the same objection twice: follow()", x, x.follow(), 3, 1);
        Check.due("count(4) tells all", x.count(4), 5);
    }
}
