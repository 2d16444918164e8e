import java.util.function.Supplier;

/**
 * The sentences that ask for the (lesser) RULE by which a MASTER is SETTLED, of one who is SETTLED by two: it is
 * neither the greater one, nor either of both, nor the first of the CHEAP ones.
 */
public final class LesserRuleTest {
    private static final int NONE = QuarrelBook.NONE;
    private static final int OBJECTION = 1, HELD = 3, LEFT = 6;
    private static final int NO_TRAITS = 0, A = 1, A_AND_B = 3;
    private static final int ALWAYS = 0, NOT_A = 2;

    public static void main(String[] args) {
        settledByTwo();
        lesserAlsoWhereTheGreaterAloneOwes();
        againstByTheLesser();
        nobodyByTheLesser();
        heldMarkedByTheLesser();
        heldFollowedByTheLesser();
        leftMarkedByTheLesser();
        lawByTheLesser();
        cheapByOneAlone();
        Check.finish();
    }

    /**
     * Cases 0 {}, 1 {a}, 2 {a, b}. Master 0 says that {} is owed, {a} is not, {a, b} is: by always and not a for 1,
     * as two cost 1; by not a alone it would be 3. Of {a} always says 1, not a says 0. Master 1 says nothing yet.
     */
    private static QuarrelBook ofTwo() {
        QuarrelBook x = new QuarrelBook();
        x.prices(3, 5, 1);
        for (int traits : new int[] {NO_TRAITS, A, A_AND_B}) x.instance(traits);
        x.master(0, 99, NONE);
        x.master(0, 99, NONE);
        x.saying(0, 0, 50, 1, NONE);
        x.saying(0, 1, 50, 0, NONE);
        x.saying(0, 2, 50, 1, NONE);
        return x;
    }

    /** The same with a saying of master 1 about {a}: saying 3. */
    private static Supplier<QuarrelBook> andOneWhoSays(int answer) {
        return () -> {
            QuarrelBook x = ofTwo();
            x.saying(1, 1, 50, answer, NONE);
            return x;
        };
    }

    /** Master 0 is settled by b and not a (the other way round: the greater one alone owes {}). */
    private static QuarrelBook ofTwoLooking() {
        QuarrelBook x = new QuarrelBook();
        x.prices(9, 9, 0);
        for (int traits : new int[] {NO_TRAITS, A, A_AND_B, 31}) x.instance(traits);
        x.master(0, 99, NONE);
        x.master(0, 99, NONE);
        x.saying(0, 0, 50, 1, 0);
        x.saying(0, 1, 50, 0, 0);
        x.saying(0, 2, 50, 1, 1);
        return x;
    }

    private static void settledByTwo() {
        Check.about("SETTLED .. by two RULES (the lesser, then the greater), if that is less");
        QuarrelBook x = ofTwo();
        Check.both("settle(0)", x, x.settle(0), 1, ALWAYS);
        Check.due("second(0)", x.second(0), NOT_A);
        Check.due("the first cheap one is another than the lesser: cheapAt(0, 0)", x.cheapAt(0, 0), NOT_A);
        Check.due("all()", x.all(), 1);
    }

    private static void lesserAlsoWhereTheGreaterAloneOwes() {
        Check.about("22: SETTLED: the sum; the (lesser) RULE by asked(); 23: The greater RULE");
        QuarrelBook x = ofTwoLooking();
        Check.both("settle(0)", x, x.settle(0), 0, NOT_A);
        Check.due("second(0), b", x.second(0), 3);
        Check.due("answers(3, {})", x.answers(3, NO_TRAITS), 0);
        Check.due("answers(not a, {a, b})", x.answers(NOT_A, A_AND_B), 0);
        x.saying(1, 2, 50, 0, NONE);
        Check.due("against(3), {a, b} not: by not a it is not", x.against(3), 0);
        Check.due("law 0 of {a, b}", x.law(0, A_AND_B), 0);
    }

    private static void againstByTheLesser() {
        Check.about("AGAINST .. of whom the (lesser) RULE by which they are SETTLED answers its CASE otherwise");
        Check.due("{a} is owed: always says so too", andOneWhoSays(1).get().against(3), 0);
        Check.due("{a} is not: always says otherwise", andOneWhoSays(0).get().against(3), 1);
    }

    private static void nobodyByTheLesser() {
        Check.about("28: How many SAYINGS are against nobody");
        QuarrelBook owed = andOneWhoSays(1).get();
        Check.both("all but {a} not, which master 1 is against", owed, owed.nobody(), 3, 0);
        QuarrelBook not = andOneWhoSays(0).get();
        Check.both("settle(1)", not, not.settle(1), 0, NOT_A);
        // Not a is against {a, b}; always, not the other one of master 0, is against what master 1 says of {a}.
        Check.both("his {} and {a}", not, not.nobody(), 2, 0);
    }

    private static void heldMarkedByTheLesser() {
        Check.about("40: a HELD one what the MASTER's (lesser) RULE answers its CASE");
        QuarrelBook x = ofTwo();
        for (int s = 0; s < 3; s++) {
            int held = x.move(s, HELD, 0);
            Check.due("always, of saying " + s, x.mark(held, HELD), 1);
        }
        QuarrelBook y = ofTwoLooking();
        int[] byNotA = {1, 0, 0};
        for (int s = 0; s < 3; s++) {
            int held = y.move(s, HELD, 0);
            Check.due("not a, of saying " + s, y.mark(held, HELD), byNotA[s]);
        }
    }

    private static void heldFollowedByTheLesser() {
        Check.about("HELD, if his RULE (lesser) lets the other SAYING's answer stand for its CASE");
        for (int answer = 0; answer < 2; answer++) {
            QuarrelBook x = andOneWhoSays(answer).get();
            x.move(0, OBJECTION, 3);
            x.move(0, HELD, 0);
            Check.both("{a} answered " + answer, x, x.follow(), 1 - answer, 1 - answer);
        }
        QuarrelBook own = ofTwo();
        own.move(0, OBJECTION, 1);
        own.move(0, HELD, 0);
        Check.both("{a} not, which fits his greater one alone", own, own.follow(), 1, 1);
    }

    private static void leftMarkedByTheLesser() {
        Check.about("40: a LEFT one what the SAYING costs by its MASTER's (lesser) RULE");
        QuarrelBook x = ofTwo();
        int[] byAlways = {0, 5, 0};
        for (int s = 0; s < 3; s++) {
            int left = x.move(s, LEFT, 0);
            Check.due("saying " + s, x.mark(left, LEFT), byAlways[s]);
        }
    }

    private static void lawByTheLesser() {
        Check.about("LAW .. 0 by the more (their RULES, lesser ones), 1 by the one who died last, 2 by the more");
        QuarrelBook x = ofTwo();
        int[] aside = {1, 0, 1};
        for (int by = 0; by < 3; by++) {
            Check.both("law(" + by + ", {a})", x, x.law(by, A), 1, aside[by]);
        }
    }

    private static void cheapByOneAlone() {
        Check.about("CHEAP are all RULES of the same least sum (by one RULE alone); FRESH: by all CHEAP RULES");
        QuarrelBook x = ofTwo();
        int cheap = x.cheap(0);
        for (int i = 0; i < cheap; i++) {
            int rule = x.cheapAt(0, i);
            int sum = x.costs(0, rule) + x.costs(1, rule) + x.costs(2, rule);
            Check.due("costs by rule " + rule, sum, 3);
            Check.holds("always, by which two are settled, costs 5 alone: " + rule, rule != ALWAYS);
        }
        Check.due("fresh(0, {}): both rules say 1, but b, which is cheap, says 0", x.fresh(0, NO_TRAITS), 2);
        Check.due("fresh(0, {a}): both may be", x.fresh(0, A), 2);
        Check.due("fresh(0, {b})", x.fresh(0, 2), 1);
    }
}
