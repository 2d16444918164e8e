import java.util.function.Supplier;

/** The boundary cases of promises 16 to 21: texts of rules, what rules answer, what fits, prices. */
public final class RuleEdgesTest {
    private static final int NONE = QuarrelBook.NONE;
    private static final int MIN = Integer.MIN_VALUE, MAX = Integer.MAX_VALUE;
    private static final int NEVER = 243, ALWAYS = 0;

    public static void main(String[] args) {
        everyByteAlone();
        everyByteBehindABlank();
        everyByteBehindAnExclamationMark();
        everyByteBehind0And1();
        everyByteBehindALetter();
        everyByteBehindALetterAndABlank();
        everyByteBehindALetterAndAnExclamationMark();
        endsThatComeTooEarly();
        lettersThatDoNotRise();
        blanksWithin();
        blanksAheadAndBehind();
        everyRuleHasAText();
        faultRefused();
        ruleRefused();
        ruleWithAFaultIsState();
        answersOfEveryRule();
        answersRefused();
        fitsWithoutABecause();
        fitsWithABecause();
        fitsRefused();
        pricesAre0To99();
        pricesAtFirst();
        pricesRefused();
        costsNothingIfItFits();
        costsTheLesserOne();
        costsOfTheFirstAndTheLastTrait();
        costsStandingIfNoTraitHelps();
        costsRefused();
        Check.finish();
    }

    private static QuarrelBook withText(String signs) {
        QuarrelBook x = new QuarrelBook();
        Books.putText(x, 3, signs);
        return x;
    }

    private static void faultIs(String signs, int place) {
        Check.due("fault of '" + signs + "'", withText(signs).fault(3), place);
        if (place == NONE) Check.holds("a rule of '" + signs + "'", withText(signs).rule(3) >= 0);
        else Check.due("rule of '" + signs + "'", withText(signs).rule(3), QuarrelBook.STATE);
    }

    /** The signs with each byte behind them: NONE behind which of them, the fault of '!' and of all others. */
    private static void everyByteBehind(String signs, String fine, int ofMark, int ofOthers) {
        for (int v = -128; v <= 127; v++) {
            char sign = (char) (v & 255);
            int want = fine.indexOf(sign) >= 0 ? NONE : sign == '!' ? ofMark : ofOthers;
            if (sign == ' ' && fine.indexOf(sign) < 0 && signs.isBlank()) want = signs.length() + 1;
            faultIs(signs + sign, want);
        }
    }

    private static void everyByteAlone() {
        Check.about("A TEXT of a RULE: 0 (48: never), 1 (49: always), or letters a .. e (97 ..)");
        everyByteBehind("", "01abcde", 1, 0);
    }

    private static void everyByteBehindABlank() {
        Check.about("A TEXT of a RULE: blanks (32) ahead");
        everyByteBehind(" ", "01abcde", 2, 1);
        everyByteBehind("   ", "01abcde", 4, 3);
    }

    private static void everyByteBehindAnExclamationMark() {
        Check.about("letters, each with a ! (33) ahead (must not) or none");
        everyByteBehind("!", "abcde", 1, 1);
    }

    private static void everyByteBehind0And1() {
        Check.about("0 (48: never), 1 (49: always), blanks (32) behind");
        everyByteBehind("0", " ", 1, 1);
        everyByteBehind("1", " ", 1, 1);
    }

    private static void everyByteBehindALetter() {
        Check.about("letters a .. e (97 ..) rising, blanks behind");
        everyByteBehind("a", " bcde", 2, 1);
        everyByteBehind("c", " de", 2, 1);
        everyByteBehind("!c", " de", 3, 2);
        everyByteBehind("d", " e", 2, 1);
        everyByteBehind("e", " ", 2, 1);
        everyByteBehind("abcd", " e", 5, 4);
    }

    private static void everyByteBehindALetterAndABlank() {
        Check.about("blanks behind, within none");
        everyByteBehind("a ", " ", 2, 2);
        everyByteBehind("0 ", " ", 2, 2);
        everyByteBehind(" 1  ", " ", 4, 4);
    }

    private static void everyByteBehindALetterAndAnExclamationMark() {
        Check.about("a letter not above the one ahead: its place");
        everyByteBehind("a!", "bcde", 2, 2);
        everyByteBehind("d!", "e", 2, 2);
        everyByteBehind("e!", "", 2, 2);
    }

    private static void endsThatComeTooEarly() {
        Check.about("A FAULT: the TEXT's size, if its end comes too early");
        for (int n = 0; n <= 40; n++) faultIs(" ".repeat(n), n);
        for (int n = 0; n <= 39; n++) faultIs(" ".repeat(n) + "!", n + 1);
        for (int n = 0; n <= 38; n++) faultIs(" ".repeat(n) + "a!", n + 2);
        faultIs("!a!", 3);
        faultIs("!a!b!c!d!", 9);
        faultIs("e!", 2);
    }

    private static void lettersThatDoNotRise() {
        Check.about("A FAULT: a letter not above the one ahead: its place");
        for (char one = 'a'; one <= 'e'; one++) {
            for (char other = 'a'; other <= 'e'; other++) {
                boolean rises = other > one;
                faultIs("" + one + other, rises ? NONE : 1);
                faultIs("!" + one + other, rises ? NONE : 2);
                faultIs(one + "!" + other, rises ? NONE : 2);
                faultIs("!" + one + "!" + other, rises ? NONE : 3);
                faultIs("  " + one + other + " ", rises ? NONE : 3);
            }
        }
        faultIs("ace", NONE);
        faultIs("aca", 2);
        faultIs("acc", 2);
        faultIs("acb", 2);
        faultIs("abcdee", 5);
        faultIs("!a!b!c!d!e!e", 11);
    }

    private static void blanksWithin() {
        Check.about("blanks ahead and behind as many as wanted, within none");
        faultIs("a b", 2);
        faultIs("! a", 1);
        faultIs("a! b", 2);
        faultIs("a !b", 2);
        faultIs("0 0", 2);
        faultIs("1  1", 3);
        faultIs(" a    b ", 6);
        faultIs("a" + " ".repeat(38) + "b", 39);
        faultIs("\ta", 0);
        faultIs("a\t", 1);
        faultIs("a" + (char) 0, 1);
        faultIs("a" + (char) 160, 1);
    }

    private static void blanksAheadAndBehind() {
        Check.about("blanks (32) ahead and behind as many as wanted");
        String[] rules = {"0", "1", "a", "!e", "!a!b!c!d!e"};
        int[] numbers = {NEVER, ALWAYS, 1, 162, 242};
        for (int i = 0; i < rules.length; i++) {
            for (int ahead = 0; ahead + rules[i].length() <= 40; ahead++) {
                int behind = 40 - ahead - rules[i].length();
                QuarrelBook x = withText(" ".repeat(ahead) + rules[i] + " ".repeat(behind));
                Check.due("fault of " + rules[i] + " at " + ahead, x.fault(3), NONE);
                Check.due("rule of " + rules[i] + " at " + ahead, x.rule(3), numbers[i]);
            }
        }
    }

    private static void everyRuleHasAText() {
        Check.about("17: The RULE of a TEXT: a number 0 .. 243");
        Check.due("rule of '1'", withText("1").rule(3), ALWAYS);
        Check.due("rule of '0'", withText("0").rule(3), NEVER);
        for (int rule = 1; rule < NEVER; rule++) {
            StringBuilder signs = new StringBuilder();
            int rest = rule;
            for (char letter = 'a'; letter <= 'e'; letter++) {
                if (rest % 3 == 2) signs.append('!');
                if (rest % 3 > 0) signs.append(letter);
                rest /= 3;
            }
            QuarrelBook x = withText(signs.toString());
            Check.due("fault of '" + signs + "'", x.fault(3), NONE);
            Check.due("rule of '" + signs + "'", x.rule(3), rule);
        }
    }

    private static void faultRefused() {
        Check.about("16: BAD; NOTHING");
        for (int t : new int[] {-1, 4, 5, NONE, MIN, MAX}) {
            Refused.bad(Books::fresh, "fault", t);
            Refused.bad(Books::some, "fault", t);
            Refused.bad(Books::full, "fault", t);
        }
        Refused.finds(Refused.NOTHING, Books::some, "fault", 3);
        Check.about("16: A FAULT of a TEXT; NONE: there is none");
        Refused.none(Books::some, "fault", 0);
        QuarrelBook x = Books.some();
        long was = x.digest();
        Check.due("fault(1) of an empty text", x.fault(1), 0);
        Check.due("fault(2)", x.fault(2), 1);
        Check.due("digest() behind them", x.digest(), was);
        Check.due("finding() behind them", x.finding(), Refused.NOUGHT);
    }

    private static void ruleRefused() {
        Check.about("17: BAD; NOTHING");
        for (int t : new int[] {-1, 4, 5, NONE, MIN, MAX}) {
            Refused.bad(Books::fresh, "rule", t);
            Refused.bad(Books::some, "rule", t);
            Refused.bad(Books::full, "rule", t);
        }
        Refused.finds(Refused.NOTHING, Books::some, "rule", 3);
    }

    private static void ruleWithAFaultIsState() {
        Check.about("17: STATE: a FAULT. (STATE behind NOTHING.)");
        Refused.state(Books::some, "rule", 1);
        Refused.state(Books::some, "rule", 2);
        for (int t = 0; t < 4; t++) Refused.state(Books::full, "rule", t);
        for (String signs : new String[] {"", " ", "!", "aa", "0a", "f"}) {
            Refused.state(() -> withText(signs), "rule", 3);
        }
        QuarrelBook x = Books.some();
        Check.due("rule(0), a text without a fault", x.rule(0), 7);
        x.put(0, 1, 'f');
        Check.due("rule(0), a fault put into it", x.rule(0), QuarrelBook.STATE);
        x.put(0, 1, 'a' + 256);
        Check.due("rule(0), mended by a number that is cut to a", x.rule(0), 7);
    }

    /** By the words of the document: each trait's figure, one by one. */
    private static int answerDue(int rule, int traits) {
        if (rule == NEVER) return 0;
        int rest = rule;
        for (int trait = 0; trait < 5; trait++) {
            boolean has = (traits >> trait) % 2 == 1;
            if (rest % 3 == 1 && !has || rest % 3 == 2 && has) return 0;
            rest /= 3;
        }
        return 1;
    }

    private static void answersOfEveryRule() {
        Check.about("18: What a RULE (0 .. 243) answers of a set of TRAITS (0 .. 31)");
        for (int rule = 0; rule <= NEVER; rule++) {
            QuarrelBook x = new QuarrelBook();
            for (int traits = 0; traits < 32; traits++) {
                Check.due(Calls.named("answers", rule, traits), x.answers(rule, traits), answerDue(rule, traits));
            }
        }
    }

    private static void answersRefused() {
        Check.about("18: BAD");
        for (int rule : new int[] {-1, 244, 245, NONE, MIN, MAX}) {
            Refused.bad(Books::fresh, "answers", rule, 0);
            Refused.bad(Books::some, "answers", rule, 31);
        }
        for (int traits : new int[] {-1, 32, 64, NONE, MIN, MAX}) {
            Refused.bad(Books::fresh, "answers", 0, traits);
            Refused.bad(Books::some, "answers", NEVER, traits);
        }
    }

    /** Saying 0: what one says of one case. */
    private static QuarrelBook saidOnce(int traits, int answer, int because) {
        QuarrelBook x = new QuarrelBook();
        x.instance(traits);
        x.master(0, 9, NONE);
        x.saying(0, 0, 5, answer, because);
        return x;
    }

    private static void fitsWithoutABecause() {
        Check.about("A SAYING FITS a RULE, if the RULE answers its CASE as it does");
        for (int traits : new int[] {0, 1, 16, 31}) {
            for (int answer = 0; answer < 2; answer++) {
                QuarrelBook x = saidOnce(traits, answer, NONE);
                for (int rule = 0; rule <= NEVER; rule++) {
                    int want = answerDue(rule, traits) == answer ? 1 : 0;
                    Check.due("{" + traits + "} " + answer + ": fits(0, " + rule + ")", x.fits(0, rule), want);
                }
            }
        }
    }

    private static int figure(int rule, int trait) {
        int rest = rule;
        for (int t = 0; t < trait; t++) rest /= 3;
        return rest % 3;
    }

    private static void fitsWithABecause() {
        Check.about("its because, if it has one, has figure 1 or 2 in it (never: of 243)");
        for (int because = 0; because < 5; because++) {
            for (int answer = 0; answer < 2; answer++) {
                QuarrelBook x = saidOnce(21, answer, because);
                for (int rule = 0; rule < NEVER; rule++) {
                    boolean fits = answerDue(rule, 21) == answer && figure(rule, because) > 0;
                    Check.due("because " + because + ", " + answer + ": fits(0, " + rule + ")", x.fits(0, rule),
                        fits ? 1 : 0);
                }
                Check.due("because " + because + ", " + answer + ": fits(0, 243)", x.fits(0, NEVER), 0);
            }
        }
    }

    private static void fitsRefused() {
        Check.about("19: BAD");
        for (int s : new int[] {-1, 4, 23, NONE, MIN, MAX}) Refused.bad(Books::some, "fits", s, 0);
        for (int rule : new int[] {-1, 244, NONE, MIN, MAX}) Refused.bad(Books::some, "fits", 0, rule);
        Refused.bad(Books::fresh, "fits", 0, 0);
        Refused.bad(Books::full, "fits", 24, 0);
        Refused.bad(Books::full, "fits", 23, 244);
    }

    private static void pricesAre0To99() {
        Check.about("PRICES each 0 .. 99");
        for (int amended : new int[] {0, 1, 98, 99}) {
            for (int standing : new int[] {0, 1, 98, 99}) {
                QuarrelBook x = saidOnce(1, 1, NONE);
                Check.due(Calls.named("prices", amended, standing, 99), x.prices(amended, standing, 99), 1);
                Check.due("it stands: costs(0, 243)", x.costs(0, NEVER), standing);
                Check.due("it is amended: costs(0, 2)", x.costs(0, 2), Math.min(amended, standing));
            }
        }
        QuarrelBook x = Books.nineOfOne();
        x.saying(1, 0, 100, 1, NONE);
        x.saying(1, 0, 100, 0, NONE);
        Check.due("prices(99, 99, 0)", x.prices(99, 99, 0), 1);
        Check.due("settle(1), two for nothing", x.settle(1), 0);
        Check.due("prices(99, 99, 98)", x.prices(99, 99, 98), 1);
        Check.due("settle(1), two for 98", x.settle(1), 98);
        Check.due("second(1)", x.second(1), 1);
        Check.due("prices(99, 99, 99)", x.prices(99, 99, 99), 1);
        Check.due("settle(1), two for no less than one", x.settle(1), 99);
        Check.due("second(1)", x.second(1), NONE);
        Check.due("asked() of the latest settle()", x.asked(), 0);
    }

    private static void pricesAtFirst() {
        Check.about("PRICES at first 3, 5, 7");
        QuarrelBook x = saidOnce(1, 1, NONE);
        Check.due("amended: costs(0, 2)", x.costs(0, 2), 3);
        Check.due("standing: costs(0, 243)", x.costs(0, NEVER), 5);
        for (int s = 0; s < 5; s++) x.saying(0, 0, 5, s < 2 ? 1 : 0, NONE);
        Check.due("two, for three that do not fit: settle(0)", x.settle(0), 7);
        Check.due("second(0)", x.second(0), 2);
    }

    private static void pricesRefused() {
        Check.about("20: BAD");
        for (int price : new int[] {-1, 100, 101, NONE, MIN, MAX}) {
            Refused.bad(Books::some, "prices", price, 1, 1);
            Refused.bad(Books::some, "prices", 1, price, 1);
            Refused.bad(Books::some, "prices", 1, 1, price);
            Refused.bad(Books::fresh, "prices", price, price, price);
        }
    }

    private static void costsNothingIfItFits() {
        Check.about("A SAYING costs by a RULE: 0, if it FITS");
        QuarrelBook x = saidOnce(3, 1, 1);
        x.prices(99, 99, 99);
        Check.due("costs(0, 3)", x.costs(0, 3), 0);
        Check.due("costs(0, 4)", x.costs(0, 4), 0);
        QuarrelBook y = saidOnce(3, 0, NONE);
        y.prices(99, 99, 99);
        Check.due("never: costs(0, 243)", y.costs(0, NEVER), 0);
    }

    private static void costsTheLesserOne() {
        Check.about("else the lesser of STANDING and, if some one TRAIT more or less lets it FIT, AMENDED");
        int[][] prices = {{3, 5, 3, 5}, {5, 3, 3, 3}, {4, 4, 4, 4}, {0, 9, 0, 9}, {9, 0, 0, 0}, {98, 99, 98, 99},
            {99, 98, 98, 98}, {0, 0, 0, 0}, {99, 99, 99, 99}};
        for (int[] one : prices) {
            QuarrelBook x = saidOnce(1, 1, NONE);
            x.prices(one[0], one[1], 7);
            String at = " at " + one[0] + ", " + one[1];
            Check.due("one trait less lets it fit" + at, x.costs(0, 2), one[2]);
            Check.due("one trait more lets it fit" + at, x.costs(0, 4), one[2]);
            Check.due("two traits would" + at, x.costs(0, 5), one[3]);
            Check.due("none would" + at, x.costs(0, NEVER), one[3]);
        }
    }

    private static void costsOfTheFirstAndTheLastTrait() {
        Check.about("some one TRAIT more or less: 0 .. 4");
        int figure = 1;
        for (int trait = 0; trait < 5; trait++) {
            int bit = 1 << trait;
            Check.due("{} owed, with " + trait, saidOnce(0, 1, NONE).costs(0, figure), 3);
            Check.due("all owed, without " + trait, saidOnce(31, 1, NONE).costs(0, 2 * figure), 3);
            Check.due("{" + bit + "} not, without it", saidOnce(bit, 0, NONE).costs(0, figure), 3);
            Check.due("all but " + trait + " not, with it", saidOnce(31 - bit, 0, NONE).costs(0, 2 * figure), 3);
            Check.due("{} owed because of it, with it", saidOnce(0, 1, trait).costs(0, figure), 3);
            figure *= 3;
        }
    }

    private static void costsStandingIfNoTraitHelps() {
        Check.about("STANDING (it is left so)");
        Check.due("always, but not owed", saidOnce(31, 0, NONE).costs(0, ALWAYS), 5);
        Check.due("never, but owed", saidOnce(0, 1, NONE).costs(0, NEVER), 5);
        Check.due("never, with a because", saidOnce(0, 0, 4).costs(0, NEVER), 5);
        Check.due("always, with a because", saidOnce(0, 1, 0).costs(0, ALWAYS), 5);
        Check.due("a rule that does not look at its because, and answers as it does", saidOnce(0, 1, 1).costs(0, 2), 5);
        Check.due("a rule that does not look at its because, and would", saidOnce(0, 1, 1).costs(0, 1), 5);
        Check.due("all five are otherwise", saidOnce(0, 1, NONE).costs(0, 121), 5);
        Check.due("two are otherwise", saidOnce(7, 1, NONE).costs(0, 121), 5);
        Check.due("one is otherwise", saidOnce(15, 1, NONE).costs(0, 121), 3);
        Check.due("not owed, and all five as wanted", saidOnce(31, 0, NONE).costs(0, 121), 3);
    }

    private static void costsRefused() {
        Check.about("21: BAD");
        for (int s : new int[] {-1, 4, 23, NONE, MIN, MAX}) Refused.bad(Books::some, "costs", s, 0);
        for (int rule : new int[] {-1, 244, NONE, MIN, MAX}) Refused.bad(Books::some, "costs", 0, rule);
        Supplier<QuarrelBook> once = () -> saidOnce(0, 0, 0);
        Refused.bad(once, "costs", 1, 0);
        Refused.bad(once, "costs", 0, 244);
        Refused.bad(Books::fresh, "costs", 0, 0);
        Refused.bad(Books::full, "costs", 24, 0);
    }
}
