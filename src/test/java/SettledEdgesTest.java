/** The boundary cases of promises 22 to 31: who is settled by what, and what follows. */
public final class SettledEdgesTest {
    private static final int NONE = QuarrelBook.NONE;
    private static final int MIN = Integer.MIN_VALUE, MAX = Integer.MAX_VALUE;
    private static final int[] NO_MASTER = {-1, 3, 7, 8, NONE, MIN, MAX};
    private static final int[] NO_SAYING = {-1, 4, 23, 24, NONE, MIN, MAX};

    public static void main(String[] args) {
        settledWithoutSayings();
        settledByTheFirstOfAlikeOnes();
        settledByTwoOnlyIfLess();
        settledByTwoForNothing();
        settledByTheFirstTwoOfAlikeOnes();
        settledByTwoOfWhichNoneFits();
        settledAtTheOutermostPrices();
        settleRefused();
        secondRefused();
        cheapAreAllWithoutSayings();
        cheapAreAllForNothing();
        cheapByOneRuleAlone();
        cheapRefused();
        cheapAtBehindTheLast();
        cheapAtRefused();
        allOfNone();
        allOfEight();
        againstOthersAlone();
        againstTheLesserRule();
        againstTheEighth();
        againstRefused();
        nobodyWithoutSayings();
        nobodyOfAllAndOfNone();
        plainByMastersWithSayings();
        plainIfAllAreAlike();
        plainNotIfTwoAreOtherwise();
        plainRefused();
        changedWithoutSayings();
        changedInAYearOfHisLife();
        changedInTheFirstOfAlikeYears();
        changedWithoutAPrice();
        changedFromAndToAnyRule();
        changedByNineSayings();
        changedRefused();
        partsOfAlikeCases();
        partsOfOtherCases();
        partsRefused();
        Check.finish();
    }

    /** Cases {} (0), {a} (1), all (2); as many masters as told, who live from 0 to 99. */
    private static QuarrelBook withMasters(int many) {
        QuarrelBook x = new QuarrelBook();
        x.instance(0);
        x.instance(1);
        x.instance(31);
        for (int m = 0; m < many; m++) x.master(0, 99, NONE);
        return x;
    }

    /** Master 0 says of {} so many times that it is owed, so many times that it is not. */
    private static QuarrelBook torn(int owed, int not) {
        QuarrelBook x = withMasters(1);
        for (int s = 0; s < owed; s++) x.saying(0, 0, 50, 1, NONE);
        for (int s = 0; s < not; s++) x.saying(0, 0, 50, 0, NONE);
        return x;
    }

    private static void settledIs(String name, QuarrelBook x, int m, int sum, int lesser, int greater) {
        Check.both(name + ": settle(" + m + ")", x, x.settle(m), sum, lesser);
        Check.due(name + ": second(" + m + ")", x.second(m), greater);
        Check.due(name + ": asked() is not told by second()", x.asked(), lesser);
    }

    private static void settledWithoutSayings() {
        Check.about("(Without SAYINGS: RULE 0.)");
        int[][] prices = {{3, 5, 7}, {0, 0, 0}, {99, 99, 99}, {99, 99, 0}};
        for (int[] one : prices) {
            QuarrelBook x = withMasters(8);
            x.prices(one[0], one[1], one[2]);
            settledIs("the first", x, 0, 0, 0, NONE);
            settledIs("the last", x, 7, 0, 0, NONE);
        }
        QuarrelBook x = Books.some();
        settledIs("one among those who spoke", x, 2, 0, 0, NONE);
    }

    private static void settledByTheFirstOfAlikeOnes() {
        Check.about("by the RULE with the least sum of costs, of alike ones the first");
        settledIs("{} owed", torn(1, 0), 0, 0, 0, NONE);
        settledIs("{} not", torn(0, 1), 0, 0, 1, NONE);
        settledIs("{} owed, nine times", torn(9, 0), 0, 0, 0, NONE);
        settledIs("{} not, nine times", torn(0, 9), 0, 0, 1, NONE);
        settledIs("one of each", torn(1, 1), 0, 3, 1, NONE);
        int figure = 1;
        for (int trait = 0; trait < 5; trait++) {
            QuarrelBook x = withMasters(2);
            x.saying(0, 0, 1, 1, trait);
            settledIs("{} owed because of " + trait, x, 0, 0, 2 * figure, NONE);
            x.saying(1, 2, 1, 1, trait);
            settledIs("all owed because of " + trait, x, 1, 0, figure, NONE);
            figure *= 3;
        }
    }

    private static void settledByTwoOnlyIfLess() {
        Check.about("or by two RULES with TWO and of each SAYING the lesser cost, if that is less");
        QuarrelBook x = torn(3, 3);
        int[][] want = {{0, 0, 0, 1}, {8, 8, 0, 1}, {9, 9, 1, NONE}, {10, 9, 1, NONE}, {99, 9, 1, NONE}};
        for (int[] one : want) {
            x.prices(3, 5, one[0]);
            settledIs("nine by one, two for " + one[0], x, 0, one[1], one[2], one[3]);
        }
        QuarrelBook most = torn(5, 4);
        most.prices(24, 25, 96);
        settledIs("96 by one and by two", most, 0, 96, 2, NONE);
        most.prices(24, 25, 95);
        settledIs("95 by two", most, 0, 95, 0, 1);
    }

    private static void settledByTwoForNothing() {
        Check.about("by two RULES, if that is less: not, if one costs nothing");
        QuarrelBook x = torn(4, 0);
        x.prices(3, 5, 0);
        settledIs("one rule fits all", x, 0, 0, 0, NONE);
        QuarrelBook y = torn(2, 2);
        y.prices(0, 5, 0);
        settledIs("amended for nothing", y, 0, 0, 1, NONE);
        y.prices(5, 0, 0);
        settledIs("left standing for nothing", y, 0, 0, 0, NONE);
        y.prices(1, 1, 0);
        settledIs("two for nothing", y, 0, 0, 0, 1);
    }

    private static void settledByTheFirstTwoOfAlikeOnes() {
        Check.about("of alike ones the first by the lesser, then the greater one");
        QuarrelBook x = torn(2, 2);
        x.prices(9, 9, 1);
        settledIs("always, and the first that is not", x, 0, 1, 0, 1);
        QuarrelBook y = withMasters(1);
        for (int s = 0; s < 3; s++) y.saying(0, 0, 1, 1, 4);
        for (int s = 0; s < 3; s++) y.saying(0, 0, 1, 0, 4);
        y.prices(9, 9, 1);
        settledIs("e for what is not, not e for what is owed", y, 0, 1, 81, 162);
        QuarrelBook z = withMasters(1);
        for (int s = 0; s < 3; s++) z.saying(0, 0, 1, 1, 0);
        for (int s = 0; s < 3; s++) z.saying(0, 2, 1, 1, 4);
        z.prices(9, 9, 1);
        settledIs("not a, then e", z, 0, 1, 2, 81);
    }

    private static void settledByTwoOfWhichNoneFits() {
        Check.about("by two RULES with TWO and of each SAYING the lesser cost: AMENDED, STANDING or 0");
        QuarrelBook x = new QuarrelBook();
        x.master(0, 99, NONE);
        x.saying(0, x.instance(3), 5, 1, 0);
        x.saying(0, x.instance(4), 5, 1, 2);
        x.saying(0, x.instance(2), 5, 1, 1);
        x.prices(3, 9, 0);
        // No rule fits two of {a, b} because of a, {c} because of c, {b} because of b. By a and b together the first
        // fits and the last is amended; c fits the other one. By a alone the last one could not be amended.
        settledIs("a and b, then c", x, 0, 3, 4, 9);
        x.prices(9, 9, 0);
        settledIs("as dear as left standing: a, then b", x, 0, 9, 1, 3);
        x.prices(3, 9, 5);
        settledIs("two for 5", x, 0, 8, 4, 9);
    }

    private static void settledAtTheOutermostPrices() {
        Check.about("PRICES each 0 .. 99, nine SAYINGS");
        QuarrelBook x = torn(5, 4);
        x.prices(0, 0, 0);
        settledIs("all for nothing", x, 0, 0, 0, NONE);
        x.prices(99, 99, 99);
        settledIs("99 each, two for 99", x, 0, 99, 0, 1);
        QuarrelBook y = withMasters(1);
        for (int s = 0; s < 3; s++) y.saying(0, 0, 1, 0, 0);
        for (int s = 0; s < 3; s++) y.saying(0, 0, 1, 1, 0);
        for (int s = 0; s < 3; s++) y.saying(0, 2, 1, 1, 0);
        y.prices(99, 99, 99);
        // a for the first three and the last; the second three need not a.
        settledIs("three kinds, two rules", y, 0, 99, 1, 2);
        QuarrelBook z = withMasters(1);
        for (int s = 0; s < 3; s++) z.saying(0, 0, 1, 0, NONE);
        for (int s = 0; s < 3; s++) z.saying(0, 0, 1, 1, 0);
        for (int s = 0; s < 3; s++) z.saying(0, 0, 1, 1, 1);
        z.prices(99, 99, 99);
        settledIs("not, not a, not b", z, 0, 99, 1, 8);
    }

    private static void settleRefused() {
        Check.about("22: BAD");
        for (int m : NO_MASTER) Refused.bad(Books::some, "settle", m);
        Refused.bad(Books::fresh, "settle", 0);
        Refused.bad(Books::full, "settle", 8);
    }

    private static void secondRefused() {
        Check.about("23: BAD");
        for (int m : NO_MASTER) Refused.bad(Books::some, "second", m);
        Refused.bad(Books::fresh, "second", 0);
        Refused.bad(Books::full, "second", 8);
        Check.about("23: The greater RULE, if he is SETTLED by two; NONE");
        Refused.none(Books::some, "second", 2);
    }

    private static void cheapIs(String name, QuarrelBook x, int m, int many, int first, int last) {
        Check.both(name + ": cheap(" + m + ")", x, x.cheap(m), many, last);
        Check.due(name + ": the first", x.cheapAt(m, 0), first);
        Check.due(name + ": the last", x.cheapAt(m, many - 1), last);
        Check.due(name + ": behind the last", x.cheapAt(m, many), NONE);
    }

    private static void cheapAreAllWithoutSayings() {
        Check.about("CHEAP are all RULES of the same least sum: of a MASTER without SAYINGS all 244");
        QuarrelBook x = withMasters(8);
        cheapIs("the first", x, 0, 244, 0, 243);
        cheapIs("the last", x, 7, 244, 0, 243);
        for (int i = 0; i < 244; i++) Check.due("cheapAt(7, " + i + ")", x.cheapAt(7, i), i);
        Check.due("asked() is not told by cheapAt()", x.asked(), 243);
    }

    private static void cheapAreAllForNothing() {
        Check.about("CHEAP are all RULES of the same least sum: for nothing");
        QuarrelBook x = torn(5, 4);
        x.prices(99, 0, 99);
        cheapIs("standing for nothing", x, 0, 244, 0, 243);
        x.prices(0, 99, 99);
        // 31 rules that have to have no trait, and look at some; 80 that have to have just one.
        cheapIs("amended for nothing", x, 0, 111, 1, 242);
    }

    private static void cheapByOneRuleAlone() {
        Check.about("(by one RULE alone)");
        cheapIs("{} owed", torn(1, 0), 0, 32, 0, 242);
        cheapIs("{} not", torn(0, 1), 0, 212, 1, 243);
        QuarrelBook x = torn(5, 4);
        x.prices(3, 5, 0);
        Check.due("he is settled by two", x.second(0), 1);
        cheapIs("but one rule alone", x, 0, 31, 2, 242);
        QuarrelBook one = withMasters(1);
        one.saying(0, 0, 1, 1, NONE);
        one.saying(0, 2, 1, 1, NONE);
        cheapIs("always alone", one, 0, 1, 0, 0);
    }

    private static void cheapRefused() {
        Check.about("24: BAD");
        for (int m : NO_MASTER) Refused.bad(Books::some, "cheap", m);
        Refused.bad(Books::fresh, "cheap", 0);
        Refused.bad(Books::full, "cheap", 8);
    }

    private static void cheapAtBehindTheLast() {
        Check.about("25: CHEAP RULE i of a MASTER (0 the first); NONE");
        for (int i : new int[] {244, 245, 500, MAX}) {
            Refused.none(Books::some, "cheapAt", 2, i);
            Refused.none(Books::some, "cheapAt", 0, i);
        }
        QuarrelBook x = withMasters(1);
        x.saying(0, 0, 1, 1, NONE);
        x.saying(0, 2, 1, 1, NONE);
        Check.due("cheapAt(0, 0) of one", x.cheapAt(0, 0), 0);
        Check.due("cheapAt(0, 1) of one", x.cheapAt(0, 1), NONE);
    }

    private static void cheapAtRefused() {
        Check.about("25: BAD: also i below 0");
        for (int i : new int[] {-1, -2, NONE, MIN + 1, MIN}) {
            Refused.bad(Books::some, "cheapAt", 0, i);
            Refused.bad(Books::some, "cheapAt", 2, i);
            Refused.bad(Books::some, "cheapAt", 3, i);
        }
        for (int m : NO_MASTER) {
            Refused.bad(Books::some, "cheapAt", m, 0);
            Refused.bad(Books::some, "cheapAt", m, MAX);
        }
        Refused.bad(Books::fresh, "cheapAt", 0, 0);
        Refused.bad(Books::full, "cheapAt", 8, 0);
    }

    private static void allOfNone() {
        Check.about("26: The sum of all MASTERS: none, or none with SAYINGS");
        Check.due("all() of a new book", new QuarrelBook().all(), 0);
        Check.due("all() of eight who say nothing", withMasters(8).all(), 0);
        QuarrelBook x = Books.some();
        long was = x.digest();
        x.all();
        Check.due("asked() is not told by all()", x.asked(), 50);
        Check.due("digest() behind all()", x.digest(), was);
    }

    private static void allOfEight() {
        Check.about("26: The sum of all MASTERS, SETTLED: eight with three SAYINGS each");
        QuarrelBook x = withMasters(8);
        for (int m = 0; m < 8; m++) {
            for (int s = 0; s < 3; s++) x.saying(m, 0, 9, s == 0 ? 0 : 1, NONE);
        }
        Check.due("count(2)", x.count(2), 24);
        Check.due("all(), amended for 3 each", x.all(), 24);
        x.prices(99, 99, 99);
        Check.due("all(), 99 each", x.all(), 792);
        x.prices(99, 99, 98);
        Check.due("all(), two for 98 each", x.all(), 784);
        x.prices(0, 0, 0);
        Check.due("all(), for nothing", x.all(), 0);
    }

    private static void againstOthersAlone() {
        Check.about("AGAINST a SAYING are other MASTERS with SAYINGS");
        QuarrelBook x = withMasters(3);
        x.saying(1, 0, 9, 1, NONE);
        Check.due("against(0): the others say nothing", x.against(0), 0);
        x.saying(1, 0, 9, 0, NONE);
        x.saying(1, 0, 9, 0, NONE);
        Check.both("by his own rule {} is not owed: settle(1)", x, x.settle(1), 3, 1);
        Check.due("against(0): not himself", x.against(0), 0);
        x.saying(0, 0, 9, 1, NONE);
        Check.due("against(3)", x.against(3), 2);
        Check.due("against(0): he answers alike", x.against(0), 0);
        Check.due("against(1)", x.against(1), 1);
        // Master 2 says nothing; by always, the rule that he is settled by, {} would be owed.
        Check.due("against(2): not of one without sayings", x.against(2), 1);
    }

    private static void againstTheLesserRule() {
        Check.about("AGAINST: of whom the (lesser) RULE answers its CASE otherwise");
        QuarrelBook x = torn(5, 4);
        x.master(0, 99, NONE);
        int owed = x.saying(1, 0, 9, 1, NONE);
        int not = x.saying(1, 0, 9, 0, NONE);
        Check.due("second(0)", x.second(0), 1);
        Check.due("always is the lesser one: against what is owed", x.against(owed), 0);
        Check.due("always is the lesser one: against what is not", x.against(not), 1);
        x.prices(3, 5, 99);
        Check.both("settle(0) by not a", x, x.settle(0), 12, 2);
        Check.due("not a: against what is owed", x.against(owed), 0);
        Check.due("not a: against what is not", x.against(not), 1);
    }

    private static void againstTheEighth() {
        Check.about("27: MASTERS AGAINST a SAYING (bits): 0 .. 7");
        QuarrelBook x = withMasters(8);
        for (int m = 0; m < 7; m++) x.saying(m, 0, 9, 1, NONE);
        x.saying(7, 0, 9, 0, NONE);
        for (int s = 0; s < 7; s++) Check.due("against(" + s + ")", x.against(s), 128);
        Check.due("against(7)", x.against(7), 127);
        Check.due("asked() is not told by against()", x.asked(), 0);
    }

    private static void againstRefused() {
        Check.about("27: BAD");
        for (int s : NO_SAYING) Refused.bad(Books::some, "against", s);
        Refused.bad(Books::fresh, "against", 0);
        Refused.bad(Books::full, "against", 24);
    }

    private static void nobodyWithoutSayings() {
        Check.about("28: the first by asked() (NONE)");
        QuarrelBook x = new QuarrelBook();
        Check.both("nobody() of a new book", x, x.nobody(), 0, NONE);
        QuarrelBook y = withMasters(8);
        Check.both("nobody() of eight who say nothing", y, y.nobody(), 0, NONE);
    }

    private static void nobodyOfAllAndOfNone() {
        Check.about("28: How many SAYINGS are against nobody");
        QuarrelBook x = withMasters(2);
        x.saying(0, 0, 9, 1, NONE);
        Check.both("nobody(), he alone", x, x.nobody(), 1, 0);
        x.saying(1, 0, 9, 0, NONE);
        Check.both("nobody(), one against the other", x, x.nobody(), 0, NONE);
        x.saying(1, 1, 9, 1, NONE);
        Check.both("nobody(), the last alone", x, x.nobody(), 1, 2);
        QuarrelBook y = withMasters(8);
        for (int s = 0; s < 24; s++) y.saying(s % 8, 0, 9, 1, NONE);
        Check.both("nobody(), all 24", y, y.nobody(), 24, 0);
    }

    private static void plainByMastersWithSayings() {
        Check.about("PLAIN: all RULES that are CHEAP of any MASTER with SAYINGS");
        QuarrelBook x = withMasters(8);
        x.saying(7, 0, 9, 1, NONE);
        Check.due("plain(0), seven say nothing", x.plain(0), 1);
        x.saying(0, 2, 9, 1, NONE);
        Check.due("plain(0), one may doubt", x.plain(0), 0);
        Check.due("plain(1), one may doubt", x.plain(1), 0);
    }

    private static void plainIfAllAreAlike() {
        Check.about("PLAIN: answer alike");
        QuarrelBook owed = withMasters(8);
        for (int s = 0; s < 24; s++) owed.saying(s % 8, 0, 9, 1, NONE);
        for (int s = 0; s < 24; s++) Check.due("owed: plain(" + s + ")", owed.plain(s), 1);
        QuarrelBook not = withMasters(8);
        for (int m = 0; m < 8; m++) not.saying(m, 0, 9, 0, NONE);
        Check.due("not: plain(7)", not.plain(7), 1);
        not.saying(7, 0, 9, 1, NONE);
        // By all cheap rules of master 7, always and never left out, {} is owed or not.
        Check.due("one is torn: plain(0)", not.plain(0), 0);
        not.saying(7, 0, 9, 0, NONE);
        Check.due("by the more he is not: plain(8), which says otherwise", not.plain(8), 1);
        not.prices(0, 0, 0);
        Check.due("all rules are cheap: plain(0)", not.plain(0), 0);
    }

    private static void plainNotIfTwoAreOtherwise() {
        Check.about("PLAIN: of any MASTER with SAYINGS, the first and the last");
        for (int first = 0; first < 2; first++) {
            QuarrelBook x = withMasters(8);
            x.saying(0, 0, 9, first, NONE);
            x.saying(7, 0, 9, 1 - first, NONE);
            Check.due("the first says " + first + ": plain(0)", x.plain(0), 0);
            Check.due("the first says " + first + ": plain(1)", x.plain(1), 0);
        }
    }

    private static void plainRefused() {
        Check.about("29: BAD");
        for (int s : NO_SAYING) Refused.bad(Books::some, "plain", s);
        Refused.bad(Books::fresh, "plain", 0);
        Refused.bad(Books::full, "plain", 24);
    }

    private static void changedWithoutSayings() {
        Check.about("CHANGED: the first year of his life, if none costs less");
        int[][] lives = {{0, 0}, {0, 999}, {999, 999}, {123, 124}};
        for (int[] life : lives) {
            QuarrelBook x = new QuarrelBook();
            x.master(life[0], life[1], NONE);
            Check.both("changed(0) from " + life[0] + " to " + life[1], x, x.changed(0), life[0], 0);
        }
    }

    /** One master, who says {} owed in a year and {} not in another. */
    private static void changes(String name, int born, int dies, int owed, int not, int year, int less) {
        QuarrelBook x = new QuarrelBook();
        x.instance(0);
        x.master(born, dies, NONE);
        x.saying(0, 0, owed, 1, NONE);
        x.saying(0, 0, not, 0, NONE);
        Check.both(name + ": changed(0)", x, x.changed(0), year, less);
    }

    private static void changedInAYearOfHisLife() {
        Check.about("CHANGED: the year y (of his life; from it on)");
        changes("from the second year on", 0, 50, 0, 1, 1, 3);
        changes("the other way", 0, 50, 1, 0, 1, 3);
        changes("from the last year on", 0, 50, 49, 50, 50, 3);
        changes("from the last year that there is on", 990, 999, 998, 999, 999, 3);
        changes("from the first to the last year of a life of two", 998, 999, 998, 999, 999, 3);
        changes("both in the last year", 0, 50, 50, 50, 0, 0);
        changes("both in the first year", 20, 50, 20, 20, 20, 0);
        changes("both in his only year", 999, 999, 999, 999, 999, 0);
        changes("both in year 0", 0, 0, 0, 0, 0, 0);
        changes("far apart", 0, 999, 0, 999, 1, 3);
    }

    private static void changedInTheFirstOfAlikeYears() {
        Check.about("CHANGED: the first");
        changes("any year from 11 to 20 would do", 0, 50, 10, 20, 11, 3);
        QuarrelBook x = withMasters(1);
        for (int s = 0; s < 8; s++) x.saying(0, 0, 10 * s, s % 2, NONE);
        // Four of each, one rule costs 12; parted anywhere the lesser ones of both sides are amended.
        Check.both("to and fro: changed(0)", x, x.changed(0), 1, 3);
        QuarrelBook y = withMasters(1);
        y.saying(0, 0, 30, 0, NONE);
        y.saying(0, 0, 20, 0, NONE);
        y.saying(0, 0, 11, 1, NONE);
        y.saying(0, 0, 10, 1, NONE);
        Check.both("told from the last to the first: changed(0)", y, y.changed(0), 12, 6);
    }

    private static void changedWithoutAPrice() {
        Check.about("CHANGED: (no price for it); how much less that is than by one RULE");
        for (int two : new int[] {0, 1, 7, 99}) {
            QuarrelBook x = withMasters(1);
            for (int s = 0; s < 4; s++) x.saying(0, 0, 10 + s, s < 2 ? 1 : 0, NONE);
            x.prices(3, 5, two);
            Check.both("two for " + two + ": changed(0)", x, x.changed(0), 12, 6);
            x.prices(99, 99, two);
            Check.both("99 each, two for " + two + ": changed(0)", x, x.changed(0), 12, 198);
            x.prices(0, 5, two);
            Check.both("amended for nothing, two for " + two + ": changed(0)", x, x.changed(0), 0, 0);
            x.prices(5, 0, two);
            Check.both("standing for nothing, two for " + two + ": changed(0)", x, x.changed(0), 0, 0);
        }
    }

    private static void changedFromAndToAnyRule() {
        Check.about("CHANGED: one RULE for his SAYINGS ahead of y and one from y on: 0 .. 243");
        // Always alone owes {} and all; a alone owes {a} and all, and not {}; never is one that owes none of three.
        int[][][] minds = {{{0, 1}, {31, 1}}, {{1, 1}, {31, 1}, {0, 0}}, {{0, 0}, {1, 0}, {31, 0}}};
        for (int[][] ahead : minds) {
            for (int[][] from : minds) {
                QuarrelBook x = new QuarrelBook();
                x.master(0, 99, NONE);
                for (int[] one : from) x.saying(0, x.instance(one[0]), 30, one[1], NONE);
                for (int[] one : ahead) x.saying(0, x.instance(one[0]), 20, one[1], NONE);
                int one = x.settle(0);
                Check.due("second(0)", x.second(0), NONE);
                Check.both("two rules that cost nothing", x, x.changed(0), ahead == from ? 0 : 21, one);
            }
        }
    }

    private static void changedByNineSayings() {
        Check.about("CHANGED: of a MASTER with nine SAYINGS");
        QuarrelBook x = withMasters(2);
        for (int s = 0; s < 9; s++) x.saying(1, 0, 90 + s, s < 5 ? 1 : 0, NONE);
        Check.both("five, then four: changed(1)", x, x.changed(1), 95, 12);
        Check.both("one who says nothing: changed(0)", x, x.changed(0), 0, 0);
        QuarrelBook y = withMasters(1);
        for (int s = 0; s < 9; s++) y.saying(0, 0, 98 - s, s == 0 ? 1 : 0, NONE);
        Check.both("eight, then one: changed(0)", y, y.changed(0), 98, 3);
        QuarrelBook z = withMasters(1);
        for (int s = 0; s < 4; s++) z.saying(0, 0, 10 + s, 1, NONE);
        for (int s = 0; s < 4; s++) z.saying(0, 0, 60 + s, 0, NONE);
        z.saying(0, 0, 40, 1, NONE);
        Check.both("behind the one told last: changed(0)", z, z.changed(0), 41, 12);
    }

    private static void changedRefused() {
        Check.about("30: BAD");
        for (int m : NO_MASTER) Refused.bad(Books::some, "changed", m);
        Refused.bad(Books::fresh, "changed", 0);
        Refused.bad(Books::full, "changed", 8);
    }

    private static void partsOfAlikeCases() {
        Check.about("31: how many; the first by asked() (NONE)");
        QuarrelBook x = new QuarrelBook();
        for (int traits : new int[] {0, 0, 31, 31, 21}) x.instance(traits);
        Check.both("parts(0, 0), itself", x, x.parts(0, 0), 0, NONE);
        Check.both("parts(4, 4), itself", x, x.parts(4, 4), 0, NONE);
        Check.both("parts(0, 1), alike ones", x, x.parts(0, 1), 0, NONE);
        Check.both("parts(3, 2), alike ones", x, x.parts(3, 2), 0, NONE);
        Check.both("parts(0, 3), all", x, x.parts(0, 3), 5, 0);
        Check.both("parts(2, 1), all", x, x.parts(2, 1), 5, 0);
    }

    private static void partsOfOtherCases() {
        Check.about("31: TRAITS that are in just one of two CASES");
        for (int trait = 0; trait < 5; trait++) {
            QuarrelBook x = new QuarrelBook();
            x.instance(0);
            x.instance(1 << trait);
            x.instance(31);
            x.instance(31 - (1 << trait));
            Check.both("parts(0, 1) by " + trait, x, x.parts(0, 1), 1, trait);
            Check.both("parts(1, 0) by " + trait, x, x.parts(1, 0), 1, trait);
            Check.both("parts(2, 3) by " + trait, x, x.parts(2, 3), 1, trait);
            Check.both("parts(1, 2) by the others", x, x.parts(1, 2), 4, trait == 0 ? 1 : 0);
            Check.both("parts(1, 3) by all", x, x.parts(1, 3), 5, 0);
        }
    }

    private static void partsRefused() {
        Check.about("31: BAD");
        for (int c : new int[] {-1, 3, 11, 12, NONE, MIN, MAX}) {
            Refused.bad(Books::some, "parts", c, 0);
            Refused.bad(Books::some, "parts", 0, c);
            Refused.bad(Books::some, "parts", c, c);
        }
        Refused.bad(Books::fresh, "parts", 0, 0);
        Refused.bad(Books::full, "parts", 12, 11);
        Refused.bad(Books::full, "parts", 11, 12);
    }
}
