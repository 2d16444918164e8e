/** Promises 16 to 31: rules, prices, settled ones. */
public final class RulesTest {
    private static final int BAD = QuarrelBook.BAD, NONE = QuarrelBook.NONE, STATE = QuarrelBook.STATE;
    private static final int NOTHING = 1;

    public static void main(String[] args) {
        faultAndRule();
        faultRefused();
        answers();
        fits();
        prices();
        costs();
        settleAndSecond();
        settleTies();
        cheapAndCheapAt();
        all();
        against();
        nobody();
        plain();
        changed();
        changedEdges();
        changedToTheOneRule();
        parts();
        Check.finish();
    }

    private static void textIs(QuarrelBook x, int t, String signs) {
        x.text(t, signs.length());
        for (int i = 0; i < signs.length(); i++) x.put(t, i, signs.charAt(i));
    }

    private static void isRule(String signs, int rule) {
        QuarrelBook x = new QuarrelBook();
        textIs(x, 2, signs);
        Check.due("fault of '" + signs + "'", x.fault(2), NONE);
        Check.due("rule of '" + signs + "'", x.rule(2), rule);
    }

    private static void hasFault(String signs, int place) {
        QuarrelBook x = new QuarrelBook();
        textIs(x, 2, signs);
        Check.due("fault of '" + signs + "'", x.fault(2), place);
        Check.due("rule of '" + signs + "'", x.rule(2), STATE);
        Check.due("finding() of '" + signs + "'", x.finding(), 0);
    }

    private static void faultAndRule() {
        isRule("0", 243);
        isRule("1", 0);
        isRule("   1 ", 0);
        isRule(" 0", 243);
        isRule("a", 1);
        isRule("!a", 2);
        isRule("e", 81);
        isRule("!e", 162);
        isRule("ae", 82);
        isRule("ab!c", 22);
        isRule("  !c!e   ", 180);
        isRule("abcde", 121);
        isRule("!a!b!c!d!e", 242);
        isRule(" ".repeat(38) + "!d", 54);
        hasFault("", 0);
        hasFault("   ", 3);
        hasFault(" ".repeat(40), 40);
        hasFault("!", 1);
        hasFault("  a!", 4);
        hasFault("f", 0);
        hasFault("A", 0);
        hasFault("`", 0);
        hasFault("2", 0);
        hasFault("/", 0);
        hasFault("aa", 1);
        hasFault("ba", 1);
        hasFault("b!a", 2);
        hasFault("b!b", 2);
        hasFault("e!a", 2);
        hasFault("e!", 2);
        hasFault("!!a", 1);
        hasFault("! a", 1);
        hasFault("a! ", 2);
        hasFault("a!f", 2);
        hasFault("!0", 1);
        hasFault("0a", 1);
        hasFault("01", 1);
        hasFault("a0", 1);
        hasFault("1 1", 2);
        hasFault("  a  b ", 5);
        hasFault("a" + (char) 225, 1);
    }

    private static void faultRefused() {
        QuarrelBook x = new QuarrelBook();
        Check.due("fault(-1)", x.fault(-1), BAD);
        Check.due("fault(4)", x.fault(4), BAD);
        Check.due("rule(-1)", x.rule(-1), BAD);
        Check.due("rule(4)", x.rule(4), BAD);
        Check.finds("fault(3)", x, x.fault(3), NOTHING);
        Check.finds("rule(3)", x, x.rule(3), NOTHING);
        textIs(x, 3, "b");
        Check.due("rule(3)", x.rule(3), 3);
        Check.finds("rule(0)", x, x.rule(0), NOTHING);
    }

    private static void answers() {
        QuarrelBook x = new QuarrelBook();
        for (int set = 0; set < 32; set++) {
            Check.due("answers(0, " + set + ")", x.answers(0, set), 1);
            Check.due("answers(243, " + set + ")", x.answers(243, set), 0);
            Check.due("answers(121, " + set + ")", x.answers(121, set), set == 31 ? 1 : 0);
            Check.due("answers(242, " + set + ")", x.answers(242, set), set == 0 ? 1 : 0);
            // c and not e
            Check.due("answers(171, " + set + ")", x.answers(171, set), (set & 20) == 4 ? 1 : 0);
        }
        Check.due("answers(244, 0)", x.answers(244, 0), BAD);
        Check.due("answers(-1, 0)", x.answers(-1, 0), BAD);
        Check.due("answers(0, 32)", x.answers(0, 32), BAD);
        Check.due("answers(0, -1)", x.answers(0, -1), BAD);
    }

    /** Sayings 0: {a, c} owed because of a; 1: {a, c} not; 2: {a, c} not because of a; 3: {} owed because of b. */
    private static QuarrelBook withBecauses() {
        QuarrelBook x = new QuarrelBook();
        x.instance(5);
        x.instance(0);
        x.master(0, 9, NONE);
        x.saying(0, 0, 1, 1, 0);
        x.saying(0, 0, 1, 0, NONE);
        x.saying(0, 0, 1, 0, 0);
        x.saying(0, 1, 1, 1, 1);
        return x;
    }

    private static void fits() {
        QuarrelBook x = withBecauses();
        int[][] fitting = {{0, 1}, {0, 10}, {1, 2}, {1, 243}, {1, 3}, {2, 2}, {2, 4}, {3, 6}, {3, 242}};
        int[][] not = {{0, 0}, {0, 9}, {0, 2}, {0, 243}, {1, 0}, {1, 1}, {2, 1}, {2, 3}, {2, 243}, {3, 3}, {3, 0},
            {3, 2}};
        for (int[] one : fitting) Check.due("fits(" + one[0] + ", " + one[1] + ")", x.fits(one[0], one[1]), 1);
        for (int[] one : not) Check.due("fits(" + one[0] + ", " + one[1] + ")", x.fits(one[0], one[1]), 0);
        Check.due("fits(4, 0)", x.fits(4, 0), BAD);
        Check.due("fits(-1, 0)", x.fits(-1, 0), BAD);
        Check.due("fits(0, 244)", x.fits(0, 244), BAD);
        Check.due("fits(0, -1)", x.fits(0, -1), BAD);
    }

    private static void prices() {
        QuarrelBook x = withBecauses();
        Check.due("prices(0, 0, 0)", x.prices(0, 0, 0), 1);
        Check.due("costs(0, 243)", x.costs(0, 243), 0);
        Check.due("prices(99, 99, 99)", x.prices(99, 99, 99), 1);
        Check.due("costs(0, 243)", x.costs(0, 243), 99);
        Check.due("prices(100, 0, 0)", x.prices(100, 0, 0), BAD);
        Check.due("prices(0, 100, 0)", x.prices(0, 100, 0), BAD);
        Check.due("prices(0, 0, 100)", x.prices(0, 0, 100), BAD);
        Check.due("prices(-1, 0, 0)", x.prices(-1, 0, 0), BAD);
        Check.due("prices(0, -1, 0)", x.prices(0, -1, 0), BAD);
        Check.due("prices(0, 0, -1)", x.prices(0, 0, -1), BAD);
        Check.due("costs(0, 243) stays", x.costs(0, 243), 99);
    }

    private static void costs() {
        QuarrelBook x = withBecauses();
        Check.due("it fits: costs(0, 1)", x.costs(0, 1), 0);
        Check.due("a less: costs(0, 2)", x.costs(0, 2), 3);
        Check.due("a less: costs(0, 8)", x.costs(0, 8), 3);
        Check.due("b more: costs(0, 4)", x.costs(0, 4), 3);
        Check.due("two too many: costs(0, 20)", x.costs(0, 20), 5);
        Check.due("its because is not looked at: costs(0, 0)", x.costs(0, 0), 5);
        Check.due("never: costs(0, 243)", x.costs(0, 243), 5);
        Check.due("always: costs(1, 0)", x.costs(1, 0), 5);
        Check.due("a less: costs(1, 1)", x.costs(1, 1), 3);
        Check.due("because not looked at: costs(2, 9)", x.costs(2, 9), 5);
        Check.due("c less: costs(2, 10)", x.costs(2, 10), 3);
        x.prices(9, 4, 7);
        Check.due("the lesser one: costs(0, 2)", x.costs(0, 2), 4);
        Check.due("costs(0, 20)", x.costs(0, 20), 4);
        Check.due("costs(4, 0)", x.costs(4, 0), BAD);
        Check.due("costs(-1, 0)", x.costs(-1, 0), BAD);
        Check.due("costs(0, 244)", x.costs(0, 244), BAD);
        Check.due("costs(0, -1)", x.costs(0, -1), BAD);
    }

    /** One master, who says of a case without traits five times owed and four times not. */
    private static QuarrelBook withTornMaster() {
        QuarrelBook x = new QuarrelBook();
        x.instance(0);
        x.master(0, 99, NONE);
        for (int s = 0; s < 9; s++) x.saying(0, 0, 10 + s, (s + 1) % 2, NONE);
        return x;
    }

    private static void settleAndSecond() {
        QuarrelBook x = withTornMaster();
        Check.both("by two: settle(0)", x, x.settle(0), 7, 0);
        Check.due("by two: second(0)", x.second(0), 1);
        x.prices(3, 5, 12);
        Check.both("two are not less: settle(0)", x, x.settle(0), 12, 2);
        Check.due("two are not less: second(0)", x.second(0), NONE);
        x.prices(3, 5, 11);
        Check.both("two are less by 1: settle(0)", x, x.settle(0), 11, 0);
        Check.due("two are less by 1: second(0)", x.second(0), 1);
        x.prices(9, 4, 99);
        Check.both("left standing: settle(0)", x, x.settle(0), 16, 0);
        x.master(0, 9, NONE);
        Check.both("without sayings: settle(1)", x, x.settle(1), 0, 0);
        Check.due("without sayings: second(1)", x.second(1), NONE);
        x.saying(1, 0, 1, 0, NONE);
        Check.both("a saying more: settle(1)", x, x.settle(1), 0, 1);
        Check.due("settle(2)", x.settle(2), BAD);
        Check.due("settle(-1)", x.settle(-1), BAD);
        Check.due("second(2)", x.second(2), BAD);
        Check.due("second(-1)", x.second(-1), BAD);
    }

    private static void settleTies() {
        QuarrelBook x = new QuarrelBook();
        x.instance(1);
        x.instance(2);
        x.instance(3);
        x.instance(0);
        x.master(0, 99, NONE);
        // Either a or b, not both, not none: no one rule says it, two do.
        x.saying(0, 0, 1, 1, NONE);
        x.saying(0, 1, 1, 1, NONE);
        x.saying(0, 2, 1, 0, NONE);
        x.saying(0, 3, 1, 0, NONE);
        // By not a, b alone {a} does not fit, and is two traits away.
        Check.both("settle(0)", x, x.settle(0), 5, 5);
        Check.due("second(0)", x.second(0), NONE);
        x.prices(3, 5, 2);
        // Always for what is owed; for the others the first rule that owes neither {a, b} nor {}.
        Check.both("settle(0) by two", x, x.settle(0), 2, 0);
        Check.due("second(0)", x.second(0), 5);
    }

    private static void cheapAndCheapAt() {
        QuarrelBook x = withTornMaster();
        // All rules that look at something and owe the empty set: each figure 0 or 2.
        Check.both("cheap(0)", x, x.cheap(0), 31, 242);
        Check.due("cheapAt(0, 0)", x.cheapAt(0, 0), 2);
        Check.due("cheapAt(0, 1)", x.cheapAt(0, 1), 6);
        Check.due("cheapAt(0, 2)", x.cheapAt(0, 2), 8);
        Check.due("cheapAt(0, 30)", x.cheapAt(0, 30), 242);
        Check.due("cheapAt(0, 31)", x.cheapAt(0, 31), NONE);
        Check.due("cheapAt(0, MAX)", x.cheapAt(0, Integer.MAX_VALUE), NONE);
        Check.due("cheapAt(0, -1)", x.cheapAt(0, -1), BAD);
        x.prices(0, 0, 0);
        Check.both("all alike: cheap(0)", x, x.cheap(0), 244, 243);
        Check.due("cheapAt(0, 243)", x.cheapAt(0, 243), 243);
        Check.due("cheapAt(0, 244)", x.cheapAt(0, 244), NONE);
        x.master(0, 0, NONE);
        x.prices(1, 1, 1);
        Check.both("without sayings: cheap(1)", x, x.cheap(1), 244, 243);
        Check.due("cheap(2)", x.cheap(2), BAD);
        Check.due("cheap(-1)", x.cheap(-1), BAD);
        Check.due("cheapAt(2, 0)", x.cheapAt(2, 0), BAD);
        Check.due("cheapAt(-1, 0)", x.cheapAt(-1, 0), BAD);
    }

    private static void all() {
        QuarrelBook x = withTornMaster();
        Check.due("all()", x.all(), 7);
        x.master(0, 99, NONE);
        Check.due("all() with one who is silent", x.all(), 7);
        x.saying(1, 0, 1, 1, NONE);
        x.saying(1, 0, 1, 0, NONE);
        Check.due("all() of two", x.all(), 10);
        x.prices(1, 9, 99);
        Check.due("all() at other prices", x.all(), 5);
        Check.due("all() of a new book", new QuarrelBook().all(), 0);
    }

    /** By single sayings: master 0 is settled by always, 1 by not a, 2 by a, 3 says nothing. */
    private static QuarrelBook withFour() {
        QuarrelBook x = new QuarrelBook();
        x.instance(1);
        x.instance(2);
        for (int m = 0; m < 4; m++) x.master(0, 99, NONE);
        x.saying(0, 0, 5, 1, NONE);
        x.saying(1, 0, 5, 0, NONE);
        x.saying(2, 1, 5, 0, NONE);
        return x;
    }

    private static void against() {
        QuarrelBook x = withFour();
        Check.both("settle(0)", x, x.settle(0), 0, 0);
        Check.both("settle(1)", x, x.settle(1), 0, 2);
        Check.both("settle(2)", x, x.settle(2), 0, 1);
        Check.due("against(0)", x.against(0), 2);
        Check.due("against(1)", x.against(1), 5);
        Check.due("against(2)", x.against(2), 3);
        x.saying(0, 0, 6, 0, NONE);
        x.saying(0, 0, 6, 0, NONE);
        // Master 0 is now settled by not a, and his own saying 0 is not against himself.
        Check.due("against(0)", x.against(0), 2);
        Check.due("against(1)", x.against(1), 4);
        Check.due("against(5)", x.against(5), BAD);
        Check.due("against(-1)", x.against(-1), BAD);
    }

    private static void nobody() {
        QuarrelBook x = withFour();
        Check.both("nobody()", x, x.nobody(), 0, NONE);
        QuarrelBook y = new QuarrelBook();
        Check.both("nobody() of a new book", y, y.nobody(), 0, NONE);
        y.instance(0);
        y.instance(1);
        for (int m = 0; m < 3; m++) y.master(0, 9, NONE);
        y.saying(2, 0, 1, 0, NONE);
        y.saying(0, 1, 1, 1, NONE);
        y.saying(1, 1, 1, 1, NONE);
        Check.both("nobody() of three", y, y.nobody(), 2, 1);
    }

    private static void plain() {
        QuarrelBook x = new QuarrelBook();
        x.instance(1);
        x.instance(2);
        x.master(0, 99, NONE);
        x.master(0, 99, NONE);
        x.saying(0, 0, 1, 1, NONE);
        Check.due("plain(0), he alone", x.plain(0), 1);
        x.saying(1, 1, 1, 1, NONE);
        Check.due("plain(0), another one may doubt", x.plain(0), 0);
        x.saying(1, 0, 1, 1, NONE);
        Check.due("plain(0), both say it", x.plain(0), 1);
        Check.due("plain(1), the first may doubt", x.plain(1), 0);
        x.saying(0, 0, 2, 1, NONE);
        x.saying(0, 0, 2, 1, NONE);
        x.saying(0, 0, 2, 0, NONE);
        Check.due("plain(5), although it says otherwise", x.plain(5), 1);
        Check.due("plain(6)", x.plain(6), BAD);
        Check.due("plain(-1)", x.plain(-1), BAD);
    }

    private static void changed() {
        QuarrelBook x = new QuarrelBook();
        x.instance(1);
        x.master(100, 150, NONE);
        Check.both("without sayings: changed(0)", x, x.changed(0), 100, 0);
        x.saying(0, 0, 121, 0, NONE);
        x.saying(0, 0, 110, 1, NONE);
        x.saying(0, 0, 120, 0, NONE);
        x.saying(0, 0, 111, 1, NONE);
        Check.both("changed(0)", x, x.changed(0), 112, 6);
        x.prices(3, 5, 0);
        Check.both("with two for nothing: changed(0)", x, x.changed(0), 112, 6);
        x.prices(4, 2, 7);
        Check.both("at other prices: changed(0)", x, x.changed(0), 112, 4);
        x.prices(0, 9, 9);
        Check.both("amended for nothing: changed(0)", x, x.changed(0), 100, 0);
        Check.due("changed(1)", x.changed(1), BAD);
        Check.due("changed(-1)", x.changed(-1), BAD);
    }

    private static void changedEdges() {
        QuarrelBook x = new QuarrelBook();
        x.instance(1);
        x.master(100, 150, NONE);
        x.saying(0, 0, 150, 0, NONE);
        x.saying(0, 0, 150, 1, NONE);
        Check.both("both in his last year: changed(0)", x, x.changed(0), 100, 0);
        x.saying(0, 0, 149, 1, NONE);
        x.saying(0, 0, 150, 0, NONE);
        Check.both("from the last year on: changed(0)", x, x.changed(0), 150, 3);
        x.master(100, 150, NONE);
        x.saying(1, 0, 100, 1, NONE);
        x.saying(1, 0, 101, 0, NONE);
        Check.both("from the second year on: changed(1)", x, x.changed(1), 101, 3);
        x.saying(1, 0, 102, 1, NONE);
        Check.both("alike: the first: changed(1)", x, x.changed(1), 100, 0);
        x.saying(1, 0, 103, 0, NONE);
        Check.both("alike gains: the first: changed(1)", x, x.changed(1), 101, 3);
    }

    /** Only always owes both {} and all traits; only a owes {a} and all, and not {}. */
    private static void changedToTheOneRule() {
        int[][] always = {{0, 1}, {31, 1}};
        int[][] a = {{1, 1}, {31, 1}, {0, 0}};
        int[][] never = {{0, 0}, {1, 0}, {31, 0}};
        changesFrom("always to never", always, never, 6);
        changesFrom("never to always", never, always, 6);
        changesFrom("a to never", a, never, 6);
        changesFrom("never to a", never, a, 6);
    }

    private static void changesFrom(String name, int[][] before, int[][] after, int less) {
        QuarrelBook x = new QuarrelBook();
        x.master(0, 99, NONE);
        for (int[] one : after) x.saying(0, x.instance(one[0]), 30, one[1], NONE);
        for (int[] one : before) x.saying(0, x.instance(one[0]), 20, one[1], NONE);
        Check.both(name + ": changed(0)", x, x.changed(0), 21, less);
    }

    private static void parts() {
        QuarrelBook x = new QuarrelBook();
        x.instance(5);
        x.instance(6);
        x.instance(30);
        x.instance(26);
        Check.both("parts(0, 1)", x, x.parts(0, 1), 2, 0);
        Check.both("parts(1, 2)", x, x.parts(1, 2), 2, 3);
        Check.both("parts(0, 3)", x, x.parts(0, 3), 5, 0);
        Check.both("parts(2, 3)", x, x.parts(2, 3), 1, 2);
        Check.both("parts(1, 1)", x, x.parts(1, 1), 0, NONE);
        Check.due("parts(0, 4)", x.parts(0, 4), BAD);
        Check.due("parts(4, 0)", x.parts(4, 0), BAD);
        Check.due("parts(-1, 0)", x.parts(-1, 0), BAD);
        Check.due("parts(0, -1)", x.parts(0, -1), BAD);
    }
}
