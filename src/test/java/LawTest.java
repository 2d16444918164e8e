/** Promises 42 to 45: law, fresh cases. */
public final class LawTest {
    private static final int BAD = QuarrelBook.BAD, NONE = QuarrelBook.NONE;

    public static void main(String[] args) {
        law();
        lawTies();
        lawRefused();
        lawsPart();
        fresh();
        next();
        Check.finish();
    }

    /**
     * Cases {a}, {}, {b}, {a, b, c, d, e}. Master 0 (dies in 80) is settled by always, 1 (in 100, his pupil) by not a;
     * 2 (in 200, the pupil of 1) says nothing.
     */
    private static QuarrelBook withSchool() {
        QuarrelBook x = new QuarrelBook();
        x.instance(1);
        x.instance(0);
        x.instance(2);
        x.instance(31);
        x.master(0, 80, NONE);
        x.master(0, 100, 0);
        x.master(0, 200, 1);
        x.saying(0, 0, 50, 1, NONE);
        x.saying(1, 0, 50, 0, NONE);
        return x;
    }

    private static void law() {
        QuarrelBook x = withSchool();
        Check.both("settle(0)", x, x.settle(0), 0, 0);
        Check.both("settle(1)", x, x.settle(1), 0, 2);
        Check.both("both owe {}: law(0, 0)", x, x.law(0, 0), 1, 2);
        Check.both("one each, asked() stays: law(0, 1)", x, x.law(0, 1), NONE, 2);
        Check.both("of those who spoke the later: law(1, 1)", x, x.law(1, 1), 0, 1);
        Check.both("law(1, 0)", x, x.law(1, 0), 1, 1);
        Check.both("three votes to two: law(2, 1)", x, x.law(2, 1), 1, 3);
        Check.both("five votes: law(2, 0)", x, x.law(2, 0), 1, 5);
        x.saying(0, 0, 60, 0, NONE);
        x.saying(0, 0, 60, 0, NONE);
        Check.both("both owe {a} no more: law(0, 1)", x, x.law(0, 1), 0, 0);
        Check.both("law(2, 31)", x, x.law(2, 31), 0, 0);
    }

    private static void lawTies() {
        QuarrelBook x = withSchool();
        x.master(0, 100, NONE);
        x.saying(3, 1, 50, 0, NONE);
        Check.both("settle(3)", x, x.settle(3), 0, 1);
        Check.both("of alike years the first: law(1, 0)", x, x.law(1, 0), 1, 1);
        Check.both("two to one: law(0, 1)", x, x.law(0, 1), 1, 2);
        x.saying(2, 0, 199, 0, NONE);
        Check.both("the latest speaks: law(1, 1)", x, x.law(1, 1), 0, 2);
        // Owed by always (3) and a (1), not by not a (2) and not a (1).
        Check.both("four to three: law(2, 1)", x, x.law(2, 1), 1, 4);
        x.master(0, 100, 1);
        // A silent pupil more of master 1 is a vote more for 0 and for 1.
        Check.both("five to four: law(2, 1)", x, x.law(2, 1), 1, 5);
        x.saying(4, 0, 99, 0, NONE);
        Check.both("five to five, asked() stays: law(2, 1)", x, x.law(2, 1), NONE, 5);
    }

    private static void lawRefused() {
        QuarrelBook x = new QuarrelBook();
        x.master(0, 9, NONE);
        x.life(0, 1);
        for (int by = 0; by < 3; by++) Check.both("nobody speaks: law(" + by + ", 0)", x, x.law(by, 0), NONE, 9);
        Check.due("law(-1, 0)", x.law(-1, 0), BAD);
        Check.due("law(3, 0)", x.law(3, 0), BAD);
        Check.due("law(0, -1)", x.law(0, -1), BAD);
        Check.due("law(0, 32)", x.law(0, 32), BAD);
    }

    private static void lawsPart() {
        QuarrelBook x = withSchool();
        x.told(0, 2);
        Check.due("none to not: lawsPart(0, 1)", x.lawsPart(0, 1), 16);
        Check.due("none to owed: lawsPart(0, 2)", x.lawsPart(0, 2), 16);
        Check.due("not to owed: lawsPart(1, 2)", x.lawsPart(1, 2), 16);
        Check.due("lawsPart(2, 1)", x.lawsPart(2, 1), 16);
        for (int by = 0; by < 3; by++) Check.due("lawsPart(" + by + ", itself)", x.lawsPart(by, by), 0);
        x.saying(0, 3, 70, 0, NONE);
        // Master 0 owes now what is not b: {a} and all without a and b.
        Check.both("settle(0)", x, x.settle(0), 0, 6);
        Check.due("with not b: lawsPart(0, 1)", x.lawsPart(0, 1), 16);
        Check.due("with not b: lawsPart(1, 2)", x.lawsPart(1, 2), 16);
        Check.due("lawsPart(3, 0)", x.lawsPart(3, 0), BAD);
        Check.due("lawsPart(0, 3)", x.lawsPart(0, 3), BAD);
        Check.due("lawsPart(-1, 0)", x.lawsPart(-1, 0), BAD);
        Check.due("lawsPart(0, -1)", x.lawsPart(0, -1), BAD);
        QuarrelBook silent = new QuarrelBook();
        Check.due("nobody speaks: lawsPart(0, 1)", silent.lawsPart(0, 1), 0);
        Check.due("asked() is not told by lawsPart()", silent.asked(), 0);
    }

    private static void fresh() {
        QuarrelBook x = withSchool();
        for (int set = 0; set < 32; set++) {
            Check.due("fresh(0, " + set + ")", x.fresh(0, set), set == 1 ? 1 : 2);
            Check.due("fresh(1, " + set + ")", x.fresh(1, set), set == 1 ? 0 : 2);
            Check.due("fresh(2, " + set + ")", x.fresh(2, set), 2);
        }
        x.saying(2, 1, 5, 1, NONE);
        x.saying(2, 3, 5, 1, NONE);
        for (int set = 0; set < 32; set++) Check.due("always: fresh(2, " + set + ")", x.fresh(2, set), 1);
        Check.due("fresh(3, 0)", x.fresh(3, 0), BAD);
        Check.due("fresh(-1, 0)", x.fresh(-1, 0), BAD);
        Check.due("fresh(0, 32)", x.fresh(0, 32), BAD);
        Check.due("fresh(0, -1)", x.fresh(0, -1), BAD);
    }

    private static void next() {
        QuarrelBook x = withSchool();
        Check.both("the silent one is not asked: next()", x, x.next(), 0, 2);
        x.saying(2, 1, 5, 1, NONE);
        Check.both("one knows {}: next()", x, x.next(), 2, 3);
        QuarrelBook silent = new QuarrelBook();
        Check.due("of a new book: next()", silent.next(), NONE);
        silent.instance(0);
        silent.instance(31);
        silent.master(0, 7, NONE);
        silent.life(0, 1);
        Check.both("nobody speaks: next()", silent, silent.next(), NONE, 7);
        silent.saying(0, 0, 1, 1, NONE);
        silent.saying(0, 1, 1, 1, NONE);
        Check.both("nothing is unsure: next()", silent, silent.next(), 0, 0);
    }
}
