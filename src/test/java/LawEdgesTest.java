import java.util.function.Supplier;

/** The boundary cases of promises 42 to 45: law, fresh cases. */
public final class LawEdgesTest {
    private static final int NONE = QuarrelBook.NONE;
    private static final int MIN = Integer.MIN_VALUE, MAX = Integer.MAX_VALUE;
    private static final int[] NO_LAW = {-1, 3, 4, NONE, MIN, MAX};
    private static final int[] NO_SET = {-1, 32, 33, 64, NONE, MIN, MAX};

    public static void main(String[] args) {
        lawOfNone();
        lawByMastersWithSayingsAlone();
        lawByAsMany();
        lawByOneMore();
        lawByTheLesserRule();
        lawByTheOneWhoDiedLast();
        lawByTheFirstOfThoseWhoDiedLast();
        lawByPupils();
        lawByAsManyPupils();
        lawOfEverySet();
        lawRefused();
        lawsPartOfNone();
        lawsPartIfOneIsNone();
        lawsPartNotFromItself();
        lawsPartRefused();
        freshWithoutSayings();
        freshByAllCheapRules();
        freshForNothing();
        freshRefused();
        nextWithoutSayings();
        nextOfAlikeOnes();
        nextIsNotTheOneWithFewestTraits();
        nextIfNobodyIsUnsure();
        nextOfEight();
        Check.finish();
    }

    /** Cases {} (0), {a} (1), all (2), and as many masters as told, who live from 0 to 99. */
    private static QuarrelBook withMasters(int many) {
        QuarrelBook x = new QuarrelBook();
        x.instance(0);
        x.instance(1);
        x.instance(31);
        for (int m = 0; m < many; m++) x.master(0, 99, NONE);
        return x;
    }

    /** Each of as many masters says of {} what is told of him: 1, 0, or nothing (NONE). */
    private static QuarrelBook saying(int... answers) {
        QuarrelBook x = withMasters(answers.length);
        for (int m = 0; m < answers.length; m++) {
            if (answers[m] != NONE) x.saying(m, 0, 50, answers[m], NONE);
        }
        return x;
    }

    private static void lawOfNone() {
        Check.about("42: NONE: none of them; (nor NONE): asked() stays");
        Supplier<QuarrelBook> silent = () -> {
            QuarrelBook x = withMasters(8);
            x.life(7, 1);
            return x;
        };
        for (int by = 0; by < 3; by++) {
            Refused.none(Books::fresh, "law", by, 0);
            Refused.none(Books::fresh, "law", by, 31);
            Refused.none(silent, "law", by, 0);
            Refused.none(silent, "law", by, 31);
        }
    }

    private static void lawByMastersWithSayingsAlone() {
        Check.about("LAW of a set of TRAITS, by MASTERS with SAYINGS alone");
        // Those who say nothing are settled by always, but have no vote.
        QuarrelBook x = saying(NONE, NONE, 0, NONE, NONE, NONE, NONE, NONE);
        Check.both("law(0, 0)", x, x.law(0, 0), 0, 0);
        Check.both("law(1, 0)", x, x.law(1, 0), 0, 2);
        Check.both("law(2, 0)", x, x.law(2, 0), 0, 0);
        QuarrelBook y = saying(NONE, NONE, NONE, NONE, NONE, NONE, NONE, 1);
        Check.both("law(0, 0), the last alone", y, y.law(0, 0), 1, 1);
        Check.both("law(1, 0), the last alone", y, y.law(1, 0), 1, 7);
        Check.both("law(2, 0), the last alone", y, y.law(2, 0), 1, 1);
    }

    private static void lawByAsMany() {
        Check.about("42: 1, 0, or NONE (as many)");
        int[][] even = {{1, 0}, {0, 1}, {1, NONE, 0, NONE}, {1, 1, 0, 0}, {0, 1, 0, 1, 0, 1, 0, 1}};
        for (int[] one : even) {
            Supplier<QuarrelBook> begun = () -> {
                QuarrelBook x = saying(one);
                x.told(0, 2);
                return x;
            };
            Refused.none(begun, "law", 0, 0);
            Refused.none(begun, "law", 2, 0);
        }
    }

    private static void lawByOneMore() {
        Check.about("42: 0 by the more; votes for owed by asked()");
        int[][] odd = {{1}, {0}, {1, 1, 0}, {0, 1, 0}, {1, 1, 1, 1, 0, 0, 0}, {0, 0, 0, 0, 1, 1, 1},
            {1, 1, 1, 1, 1, 1, 1, 1}, {0, 0, 0, 0, 0, 0, 0, 0}, {1, 1, 1, 1, 1, 0, 0, 0}, {1, 1, 1, 0, 0, 0, 0, 0}};
        for (int[] one : odd) {
            int owed = 0;
            for (int answer : one) owed += answer;
            QuarrelBook x = saying(one);
            int law = 2 * owed > one.length ? 1 : 0;
            Check.both(owed + " of " + one.length + ": law(0, 0)", x, x.law(0, 0), law, owed);
            Check.both(owed + " of " + one.length + ": law(2, 0)", x, x.law(2, 0), law, owed);
        }
    }

    private static void lawByTheLesserRule() {
        Check.about("42: (their RULES, lesser ones)");
        QuarrelBook x = withMasters(1);
        for (int s = 0; s < 9; s++) x.saying(0, 0, 50, s < 5 ? 0 : 1, NONE);
        Check.both("settle(0)", x, x.settle(0), 7, 0);
        Check.due("second(0)", x.second(0), 1);
        for (int by = 0; by < 3; by++) {
            Check.both("by always: law(" + by + ", 0)", x, x.law(by, 0), 1, by == 1 ? 0 : 1);
        }
        x.prices(3, 5, 99);
        Check.both("settle(0) by a", x, x.settle(0), 12, 1);
        for (int by = 0; by < 3; by++) Check.both("by a: law(" + by + ", 0)", x, x.law(by, 0), 0, 0);
    }

    private static void lawByTheOneWhoDiedLast() {
        Check.about("1 by the one who died last");
        QuarrelBook x = new QuarrelBook();
        x.instance(0);
        int[] died = {500, 998, 997, 999};
        for (int year : died) x.master(0, year, NONE);
        x.saying(0, 0, 5, 0, NONE);
        Check.both("the only one who speaks", x, x.law(1, 0), 0, 0);
        x.saying(1, 0, 5, 1, NONE);
        Check.both("a year later", x, x.law(1, 0), 1, 1);
        x.saying(2, 0, 5, 0, NONE);
        Check.both("a year earlier", x, x.law(1, 0), 1, 1);
        x.saying(3, 0, 5, 0, NONE);
        Check.both("in the last year that there is", x, x.law(1, 0), 0, 3);
    }

    private static void lawByTheFirstOfThoseWhoDiedLast() {
        Check.about("1 by the one who died last (of alike ones the first)");
        QuarrelBook x = new QuarrelBook();
        x.instance(0);
        for (int m = 0; m < 8; m++) x.master(m, m < 2 ? 50 : 60, NONE);
        for (int m = 7; m >= 0; m--) {
            x.saying(m, 0, 30, m % 2, NONE);
            int first = Math.max(m, 2);
            Check.both(m + " speaks too: law(1, 0)", x, x.law(1, 0), first % 2, first);
        }
        QuarrelBook y = new QuarrelBook();
        y.instance(0);
        for (int m = 0; m < 2; m++) y.master(0, 0, NONE);
        for (int m = 0; m < 2; m++) y.saying(m, 0, 0, m, NONE);
        Check.both("both in year 0: law(1, 0)", y, y.law(1, 0), 0, 0);
    }

    private static void lawByPupils() {
        Check.about("2 by the more, each with as many votes as he has pupils (all that lead back to him) and 1");
        QuarrelBook x = new QuarrelBook();
        x.instance(0);
        for (int m = 0; m < 8; m++) x.master(0, 99, m == 0 ? NONE : m - 1);
        x.saying(0, 0, 5, 1, NONE);
        Check.both("eight votes of one with seven silent pupils", x, x.law(2, 0), 1, 8);
        Check.both("by the more: one", x, x.law(0, 0), 1, 1);
        x.saying(1, 0, 5, 0, NONE);
        Check.both("eight to seven", x, x.law(2, 0), 1, 8);
        x.saying(7, 0, 5, 0, NONE);
        Check.both("by the more: one to two", x, x.law(0, 0), 0, 1);
    }

    private static void lawByAsManyPupils() {
        Check.about("42: NONE: as many votes");
        Supplier<QuarrelBook> begun = () -> {
            QuarrelBook x = new QuarrelBook();
            x.instance(0);
            for (int m = 0; m < 8; m++) x.master(0, 99, m == 0 ? NONE : m - 1);
            x.saying(0, 0, 5, 1, NONE);
            x.saying(1, 0, 5, 0, NONE);
            x.saying(7, 0, 5, 0, NONE);
            x.told(0, 2);
            return x;
        };
        Refused.none(begun, "law", 2, 0);
        QuarrelBook x = begun.get();
        x.saying(6, 0, 5, 0, NONE);
        Check.both("eight to ten", x, x.law(2, 0), 0, 8);
    }

    private static void lawOfEverySet() {
        Check.about("42: LAW (0, 1, 2) of a set of TRAITS (0 .. 31)");
        QuarrelBook x = withMasters(1);
        x.saying(0, 2, 5, 1, 4);
        Check.both("settle(0) by e", x, x.settle(0), 0, 81);
        for (int set = 0; set < 32; set++) {
            int owed = set >= 16 ? 1 : 0;
            Check.both("law(0, " + set + ")", x, x.law(0, set), owed, owed);
            Check.both("law(1, " + set + ")", x, x.law(1, set), owed, 0);
            Check.both("law(2, " + set + ")", x, x.law(2, set), owed, owed);
        }
    }

    private static void lawRefused() {
        Check.about("42: BAD");
        for (int by : NO_LAW) {
            Refused.bad(Books::fresh, "law", by, 0);
            Refused.bad(Books::some, "law", by, 31);
        }
        for (int by = 0; by < 3; by++) {
            for (int set : NO_SET) {
                Refused.bad(Books::fresh, "law", by, set);
                Refused.bad(Books::some, "law", by, set);
            }
        }
    }

    private static void lawsPartOfNone() {
        Check.about("43: two LAWS part, not if both are NONE");
        for (int one = 0; one < 3; one++) {
            for (int other = 0; other < 3; other++) {
                Check.due("nobody: lawsPart()", new QuarrelBook().lawsPart(one, other), 0);
                Check.due("nobody speaks: lawsPart()", withMasters(8).lawsPart(one, other), 0);
            }
        }
    }

    private static void lawsPartIfOneIsNone() {
        Check.about("43: For how many of the 32 sets of TRAITS two LAWS part (also one NONE)");
        QuarrelBook x = withMasters(2);
        x.saying(0, 0, 5, 1, NONE);
        x.saying(0, 2, 5, 1, NONE);
        x.saying(1, 0, 5, 0, 4);
        // Always to e: of 16 sets as many, of the others both owe.
        Check.both("settle(1) by e", x, x.settle(1), 0, 81);
        Check.due("NONE and 1: lawsPart(0, 1)", x.lawsPart(0, 1), 16);
        Check.due("1 and NONE: lawsPart(1, 0)", x.lawsPart(1, 0), 16);
        Check.due("both NONE: lawsPart(0, 2)", x.lawsPart(0, 2), 0);
        Check.due("asked() is not told by lawsPart()", x.asked(), 81);
        QuarrelBook y = new QuarrelBook();
        y.instance(0);
        y.instance(31);
        y.master(0, 9, NONE);
        y.master(0, 99, NONE);
        y.saying(0, 0, 5, 1, NONE);
        y.saying(0, 1, 5, 1, NONE);
        y.saying(1, 0, 5, 0, NONE);
        y.saying(1, 1, 5, 0, NONE);
        y.saying(1, 0, 5, 0, 0);
        Check.both("settle(1) by not a and b", y, y.settle(1), 0, 5);
        Check.due("NONE to 0 for all but eight: lawsPart(0, 1)", y.lawsPart(0, 1), 24);
        y.master(0, 5, 0);
        Check.due("two votes to one: lawsPart(0, 2)", y.lawsPart(0, 2), 24);
        Check.due("1 to 0: lawsPart(2, 1)", y.lawsPart(2, 1), 24);
    }

    private static void lawsPartNotFromItself() {
        Check.about("43: two LAWS, perhaps the same");
        for (int by = 0; by < 3; by++) {
            Check.due("lawsPart(" + by + ", " + by + ")", Books.some().lawsPart(by, by), 0);
            Check.due("lawsPart(" + by + ", " + by + ") of a full book", Books.full().lawsPart(by, by), 0);
        }
        for (int one = 0; one < 3; one++) {
            for (int other = 0; other < 3; other++) {
                int parted = Books.full().lawsPart(one, other);
                Check.holds("from 0 to 32: " + parted, parted >= 0 && parted <= 32);
                Check.due("the same the other way", Books.full().lawsPart(other, one), parted);
            }
        }
    }

    private static void lawsPartRefused() {
        Check.about("43: BAD");
        for (int by : NO_LAW) {
            Refused.bad(Books::some, "lawsPart", by, 0);
            Refused.bad(Books::some, "lawsPart", 0, by);
            Refused.bad(Books::fresh, "lawsPart", by, by);
        }
    }

    private static void freshWithoutSayings() {
        Check.about("FRESH: what a MASTER would say, without SAYINGS: 2 (both may be)");
        QuarrelBook x = withMasters(8);
        for (int set = 0; set < 32; set++) {
            Check.due("fresh(0, " + set + ")", x.fresh(0, set), 2);
            Check.due("fresh(7, " + set + ")", x.fresh(7, set), 2);
        }
        Check.due("asked() is not told by fresh()", x.asked(), 0);
    }

    private static void freshByAllCheapRules() {
        Check.about("FRESH: 1, 0 by all CHEAP RULES, 2 (both may be)");
        QuarrelBook x = saying(1, 0);
        Check.due("he said so: fresh(0, 0)", x.fresh(0, 0), 1);
        Check.due("he said so: fresh(1, 0)", x.fresh(1, 0), 0);
        for (int set = 1; set < 32; set++) {
            Check.due("fresh(0, " + set + ")", x.fresh(0, set), 2);
            Check.due("fresh(1, " + set + ")", x.fresh(1, set), 2);
        }
        x.saying(0, 2, 5, 1, NONE);
        for (int set = 0; set < 32; set++) Check.due("always alone: fresh(0, " + set + ")", x.fresh(0, set), 1);
        QuarrelBook y = withMasters(1);
        for (int s = 0; s < 9; s++) y.saying(0, 0, 50, s < 5 ? 0 : 1, NONE);
        // Settled by always and a; cheap are, by one rule alone, those that have to have just one trait.
        Check.due("second(0)", y.second(0), 1);
        Check.due("by one rule alone: fresh(0, 0)", y.fresh(0, 0), 0);
        for (int set = 1; set < 32; set++) Check.due("fresh(0, " + set + ")", y.fresh(0, set), 2);
    }

    private static void freshForNothing() {
        Check.about("FRESH: of all RULES that cost nothing");
        QuarrelBook x = saying(1);
        x.prices(0, 0, 0);
        Check.due("all rules are cheap: fresh(0, 0)", x.fresh(0, 0), 2);
        x.prices(1, 1, 1);
        Check.due("not any more: fresh(0, 0)", x.fresh(0, 0), 1);
    }

    private static void freshRefused() {
        Check.about("44: BAD");
        for (int m : new int[] {-1, 3, 7, 8, NONE, MIN, MAX}) Refused.bad(Books::some, "fresh", m, 0);
        for (int set : NO_SET) {
            Refused.bad(Books::some, "fresh", 0, set);
            Refused.bad(Books::some, "fresh", 2, set);
        }
        Refused.bad(Books::fresh, "fresh", 0, 0);
        Refused.bad(Books::full, "fresh", 8, 31);
    }

    private static void nextWithoutSayings() {
        Check.about("45: NONE: no MASTER has SAYINGS; (nor NONE): asked() stays");
        Supplier<QuarrelBook> silent = () -> {
            QuarrelBook x = withMasters(8);
            x.life(7, 1);
            return x;
        };
        Refused.none(Books::fresh, "next");
        Refused.none(silent, "next");
    }

    private static void nextOfAlikeOnes() {
        Check.about("NEXT: of alike ones the least");
        QuarrelBook x = withMasters(3);
        x.saying(1, 2, 5, 1, NONE);
        Check.both("all but 31 are unsure: next()", x, x.next(), 0, 1);
        QuarrelBook y = saying(1, NONE, NONE);
        Check.both("all but {} are unsure: next()", y, y.next(), 1, 1);
        y.saying(1, 1, 5, 1, NONE);
        Check.both("{} and {a} are sure for one each: next()", y, y.next(), 2, 2);
        QuarrelBook z = new QuarrelBook();
        z.master(0, 9, NONE);
        for (int bit = 1; bit < 32; bit *= 2) z.saying(0, z.instance(31 - bit), 5, 1, NONE);
        // Always alone lets all five be owed: all sets are sure.
        Check.both("none: next()", z, z.next(), 0, 0);
        QuarrelBook last = new QuarrelBook();
        last.master(0, 9, NONE);
        for (int bit = 2; bit < 32; bit *= 2) last.saying(0, last.instance(31 - bit), 5, 1, NONE);
        // a may be looked at: of sets with a all are owed, of those without it both may be.
        Check.due("fresh(0, 31)", last.fresh(0, 31), 1);
        Check.both("without a: next()", last, last.next(), 0, 1);
    }

    private static void nextIsNotTheOneWithFewestTraits() {
        Check.about("NEXT: of alike ones the least: {a, b}, which is 3, not {c}, which is 4");
        QuarrelBook x = new QuarrelBook();
        x.master(0, 9, NONE);
        for (int traits : new int[] {0, 1, 2}) x.saying(0, x.instance(traits), 5, 0, NONE);
        Check.due("fresh(0, {a, b})", x.fresh(0, 3), 2);
        Check.due("fresh(0, {c})", x.fresh(0, 4), 2);
        Check.both("next()", x, x.next(), 3, 1);
    }

    private static void nextIfNobodyIsUnsure() {
        Check.about("45: how many by asked(): 0");
        QuarrelBook x = withMasters(8);
        for (int m = 0; m < 8; m++) {
            x.saying(m, 0, 5, 1, NONE);
            x.saying(m, 2, 5, 1, NONE);
        }
        Check.both("always alone, of all: next()", x, x.next(), 0, 0);
    }

    private static void nextOfEight() {
        Check.about("NEXT: of which most MASTERS (with SAYINGS) answer 2");
        QuarrelBook x = saying(1, 1, 1, 1, 1, 1, 1, 1);
        Check.both("all eight: next()", x, x.next(), 1, 8);
        QuarrelBook y = new QuarrelBook();
        y.master(0, 9, NONE);
        y.master(0, 9, NONE);
        for (int s = 0; s < 9; s++) y.saying(0, y.instance(30), 5, 1, NONE);
        y.saying(1, y.instance(0), 5, 1, NONE);
        Check.both("one is sure of {}, one of 30: next()", y, y.next(), 1, 2);
        y.prices(0, 0, 0);
        Check.both("for nothing nobody is sure: next()", y, y.next(), 0, 2);
    }
}
