import java.math.BigInteger;
import java.util.ArrayList;
import java.util.List;

/** The boundary cases of promises 46 to 52: what is told. */
public final class TellingEdgesTest {
    private static final int NONE = QuarrelBook.NONE;
    private static final int MIN = Integer.MIN_VALUE, MAX = Integer.MAX_VALUE;

    public static void main(String[] args) {
        constantsAreAsTold();
        askedByEachThatTells();
        askedStaysBehindAllOthers();
        askedTellsTheLatest();
        fractionsBefore();
        fractionsStay();
        countOfNothing();
        countOfAll();
        countOfWhatIsThere();
        countRefused();
        findingBeforeAny();
        findingTellsTheLatest();
        findingsCountEach();
        findingsAreNotBadFullOrState();
        findingsRefused();
        digestOfANewBook();
        digestWrapsAround();
        digestOfMissingAndEmptyRows();
        digestOfAFullBook();
        digestLeavesAllAsItIs();
        the512thCall();
        Check.finish();
    }

    private static void constantsAreAsTold() {
        Check.about("BAD -1, FULL -2, STATE -4, FINDING -3, NONE -9");
        Check.due("BAD", QuarrelBook.BAD, -1);
        Check.due("FULL", QuarrelBook.FULL, -2);
        Check.due("FINDING", QuarrelBook.FINDING, -3);
        Check.due("STATE", QuarrelBook.STATE, -4);
        Check.due("NONE", QuarrelBook.NONE, -9);
    }

    // Each call that tells something aside, with its arguments, on a book with some of everything.
    private static final Object[][] TELLERS = {
        {"lay", new int[] {0, 2, 5}, 16}, {"mean", new int[] {0}, 4}, {"told", new int[] {3, 2}, 90},
        {"life", new int[] {1, 1}, 90}, {"settle", new int[] {0}, 6}, {"cheap", new int[] {2}, 243},
        {"nobody", new int[] {}, 1}, {"changed", new int[] {1}, 0}, {"parts", new int[] {0, 1}, 1},
        {"can", new int[] {3}, 60}, {"reading", new int[] {3}, 1}, {"runs", new int[] {0}, 0},
        {"moved", new int[] {4, 2}, 4}, {"follow", new int[] {}, 4}, {"law", new int[] {1, 0}, 1},
        {"next", new int[] {}, 2}};

    private static void askedByEachThatTells() {
        Check.about("46: What the latest lay(), mean(), .. next() that was not refused told");
        for (Object[] one : TELLERS) {
            QuarrelBook x = Books.some();
            Check.due("asked() ahead", x.asked(), 50);
            String call = Calls.named((String) one[0], (int[]) one[1]);
            long answer = Calls.call(x, (String) one[0], (int[]) one[1]);
            Check.holds(call + " is not refused: " + answer, answer >= 0);
            Check.due("asked() behind " + call, x.asked(), (int) one[2]);
            Check.due("asked() again", x.asked(), (int) one[2]);
        }
    }

    private static void askedStaysBehindAllOthers() {
        Check.about("46: by no other call");
        Object[][] others = {
            {"row", new int[] {3, 7}}, {"tear", new int[] {0}}, {"copy", new int[] {0, 0, 2, 0, 5}},
            {"text", new int[] {3, 7}}, {"put", new int[] {0, 0, 65}}, {"instance", new int[] {9}},
            {"master", new int[] {3, 4, 0}}, {"saying", new int[] {0, 0, 30, 1, 2}}, {"sayings", new int[] {0, 30, 1}},
            {"traits", new int[] {1}}, {"fault", new int[] {2}}, {"rule", new int[] {0}},
            {"answers", new int[] {3, 3}}, {"fits", new int[] {0, 0}}, {"prices", new int[] {1, 2, 3}},
            {"costs", new int[] {0, 243}}, {"cheapAt", new int[] {0, 1}}, {"all", new int[] {}},
            {"against", new int[] {0}}, {"plain", new int[] {0}}, {"met", new int[] {0, 1}},
            {"reads", new int[] {0, 0, 1}}, {"slip", new int[] {3, 3, 2}}, {"move", new int[] {0, 5, 77}},
            {"mark", new int[] {4, 4}}, {"lawsPart", new int[] {0, 1}}, {"fresh", new int[] {0, 0}},
            {"upper", new int[] {}}, {"lower", new int[] {}}, {"count", new int[] {2}}, {"finding", new int[] {}},
            {"findings", new int[] {1}}};
        for (Object[] one : others) {
            QuarrelBook x = Books.some();
            String call = Calls.named((String) one[0], (int[]) one[1]);
            long answer = Calls.call(x, (String) one[0], (int[]) one[1]);
            Check.holds(call + " is not refused: " + answer, answer >= 0);
            Check.due("asked() behind " + call, x.asked(), 50);
        }
        QuarrelBook x = Books.some();
        x.digest();
        Check.due("asked() behind digest()", x.asked(), 50);
    }

    private static void askedTellsTheLatest() {
        Check.about("46: the latest; any int, NONE too");
        QuarrelBook x = Books.some();
        for (int v : new int[] {MIN, MAX, NONE, -1, 0}) x.lay(0, 0, v);
        Check.due("asked()", x.asked(), -1);
        x.lay(0, 0, MIN);
        Check.due("asked()", x.asked(), 0);
        x.lay(0, 0, MAX);
        Check.due("asked()", x.asked(), MIN);
        x.parts(0, 0);
        Check.due("asked() NONE, told by parts()", x.asked(), NONE);
        x.told(0, 4);
        Check.due("asked() NONE, told by told()", x.asked(), NONE);
        x.life(0, 2);
        Check.due("asked() NONE, told by life()", x.asked(), NONE);
        x.life(0, 1);
        Check.due("asked()", x.asked(), 80);
    }

    private static void fractionsBefore() {
        Check.about("47, 48: 0 before; 1 before; (0 by 1)");
        QuarrelBook x = new QuarrelBook();
        Check.due("slip(0, 2, 0)", x.slip(0, 2, 0), QuarrelBook.BAD);
        Check.due("upper() behind a refused one", x.upper(), 0);
        Check.due("lower() behind a refused one", x.lower(), 1);
    }

    private static void fractionsStay() {
        Check.about("47: the fraction that was told last");
        QuarrelBook x = Books.some();
        Check.due("upper()", x.upper(), 5);
        Check.due("lower()", x.lower(), 9);
        x.mean(0);
        x.settle(0);
        x.digest();
        Check.due("upper() behind other calls", x.upper(), 5);
        Check.due("lower() behind other calls", x.lower(), 9);
        x.slip(12, 9, 12);
        Check.due("upper()", x.upper(), 1);
        Check.due("lower(), which is no int", x.lower(), 282429536481L);
        x.slip(12, 9, 0);
        Check.due("upper()", x.upper(), 1);
        Check.due("lower()", x.lower(), 1);
    }

    private static void countsAre(String name, QuarrelBook x, int... want) {
        for (int what = 0; what < 7; what++) Check.due(name + ": count(" + what + ")", x.count(what), want[what]);
    }

    private static void countOfNothing() {
        Check.about("49: of a new book");
        countsAre("new", new QuarrelBook(), 0, 0, 0, 0, 0, 0, 0);
    }

    private static void countOfAll() {
        Check.about("49: as many as there can be");
        countsAre("full", Books.full(), 12, 8, 24, 40, 20, 6, 4);
        QuarrelBook x = Books.full();
        x.instance(0);
        x.master(0, 0, NONE);
        x.saying(2, 0, 50, 1, NONE);
        x.sayings(2, 50, 0);
        x.move(0, 1, 1);
        x.row(6, 1);
        x.text(4, 1);
        countsAre("full, and more refused", x, 12, 8, 24, 40, 20, 6, 4);
    }

    private static void countOfWhatIsThere() {
        Check.about("49: 4 OBJECTIONS, 5 ROWS, 6 TEXTS that are there");
        countsAre("some", Books.some(), 3, 3, 4, 7, 1, 3, 3);
        QuarrelBook x = Books.some();
        x.row(0, 0);
        x.text(0, 0);
        countsAre("renewed, and empty", x, 3, 3, 4, 7, 1, 3, 3);
        x.tear(0);
        x.tear(1);
        x.tear(2);
        countsAre("torn", x, 3, 3, 4, 7, 1, 0, 3);
        x.move(0, 6, 0);
        x.follow();
        countsAre("an objection that is left is one", x, 3, 3, 4, 8, 1, 0, 3);
    }

    private static void countRefused() {
        Check.about("49: BAD");
        for (int what : new int[] {-1, 7, 8, NONE, MIN, MAX}) {
            Refused.bad(Books::fresh, "count", what);
            Refused.bad(Books::some, "count", what);
        }
    }

    private static void findingBeforeAny() {
        Check.about("50: The latest FINDING (0 before any)");
        QuarrelBook x = new QuarrelBook();
        x.row(6, 0);
        x.instance(32);
        x.text(0, 0);
        x.rule(0);
        x.fault(0);
        x.next();
        Check.due("finding() behind BAD, STATE, NONE", x.finding(), 0);
    }

    /** Has each finding answered once, as told. */
    private static void find(QuarrelBook x, int finding) {
        switch (finding) {
            case Refused.NOTHING: x.tear(3); break;
            case Refused.BEYOND: x.lay(0, 5, 0); break;
            case Refused.UNLIKE: x.mark(0, 1); break;
            case Refused.NOUGHT: x.mean(1); break;
            default: x.copy(0, 0, 0, 0, -1);
        }
    }

    private static void findingTellsTheLatest() {
        Check.about("FINDINGS: 1 NOTHING, 2 BEYOND, 3 UNLIKE, 4 NOUGHT, 5 SIZE");
        for (int ahead = 1; ahead <= 5; ahead++) {
            for (int f = 1; f <= 5; f++) {
                QuarrelBook x = Books.some();
                find(x, ahead);
                find(x, f);
                Check.due(ahead + ", then " + f + ": finding()", x.finding(), f);
                x.lay(0, 0, 0);
                Check.due("finding() behind what is not refused", x.finding(), f);
                x.lay(6, 0, 0);
                Check.due("finding() behind BAD", x.finding(), f);
            }
        }
    }

    private static void findingsCountEach() {
        Check.about("51: How often a FINDING (1 .. 5) was answered");
        for (int f = 1; f <= 5; f++) {
            QuarrelBook x = Books.some();
            for (int time = 0; time < 300; time++) find(x, f);
            for (int other = 1; other <= 5; other++) {
                Check.due(f + " 300 times: findings(" + other + ")", x.findings(other), other == f ? 301 : 1);
            }
        }
    }

    private static void findingsAreNotBadFullOrState() {
        Check.about("51: a FINDING, not BAD, FULL, STATE or NONE");
        QuarrelBook x = Books.full();
        x.lay(6, 0, 0);
        x.instance(0);
        x.sayings(7, 70, 0);
        x.rule(0);
        x.fault(0);
        x.cheapAt(0, 999);
        for (int f = 1; f <= 5; f++) Check.due("findings(" + f + ")", x.findings(f), 0);
        Check.due("finding()", x.finding(), 0);
    }

    private static void findingsRefused() {
        Check.about("51: BAD");
        for (int f : new int[] {0, 6, -1, 7, NONE, MIN, MAX}) {
            Refused.bad(Books::fresh, "findings", f);
            Refused.bad(Books::some, "findings", f);
        }
    }

    /** h = 17; then h = 31 h + v for each v, with numbers that have no bounds, cut to a long at the end. */
    private static long mixed(List<Integer> values) {
        BigInteger h = BigInteger.valueOf(17);
        for (int v : values) h = h.multiply(BigInteger.valueOf(31)).add(BigInteger.valueOf(v));
        return h.longValue();
    }

    private static void add(List<Integer> values, int... more) {
        for (int v : more) values.add(v);
    }

    private static void digestOfANewBook() {
        Check.about("52: count() 0 to 6; PRICES; of each ROW its size (-1: missing), of each TEXT likewise");
        List<Integer> values = new ArrayList<>();
        add(values, 0, 0, 0, 0, 0, 0, 0, 3, 5, 7, -1, -1, -1, -1, -1, -1, -1, -1, -1, -1);
        Check.due("digest() of a new book", new QuarrelBook().digest(), mixed(values));
    }

    private static void digestWrapsAround() {
        Check.about("52: h = 31 h + v, where it wraps around");
        for (int v : new int[] {MIN, MAX, -1, 1}) {
            QuarrelBook x = new QuarrelBook();
            List<Integer> values = new ArrayList<>();
            add(values, 0, 0, 0, 0, 0, 6, 0, 3, 5, 7);
            for (int r = 0; r < 6; r++) {
                x.row(r, 40);
                values.add(40);
                for (int i = 0; i < 40; i++) {
                    x.lay(r, i, v);
                    values.add(v);
                }
            }
            add(values, -1, -1, -1, -1);
            Check.due("digest() of 240 times " + v, x.digest(), mixed(values));
        }
    }

    private static void digestOfMissingAndEmptyRows() {
        Check.about("52: of each ROW its size (-1: missing) and places, of each TEXT likewise");
        QuarrelBook x = new QuarrelBook();
        x.row(0, 0);
        Books.layRow(x, 5, 3, -1, 0);
        x.text(1, 0);
        Books.putText(x, 3, "a" + (char) 255);
        List<Integer> values = new ArrayList<>();
        add(values, 0, 0, 0, 0, 0, 2, 2, 3, 5, 7, 0, -1, -1, -1, -1, 3, 3, -1, 0, -1, 0, -1, 2, 97, -1);
        Check.due("digest()", x.digest(), mixed(values));
        x.tear(5);
        x.row(0, 1);
        values.clear();
        add(values, 0, 0, 0, 0, 0, 1, 2, 3, 5, 7, 1, 0, -1, -1, -1, -1, -1, -1, 0, -1, 2, 97, -1);
        Check.due("digest() with one torn and one longer", x.digest(), mixed(values));
    }

    /** What asked() tells behind a call with two numbers. */
    private static int told(QuarrelBook x, String name, int one, int what) {
        Calls.call(x, name, one, what);
        return x.asked();
    }

    private static void digestOfAFullBook() {
        Check.about("52: life() 0 to 4; told() 0 to 4, what each COPY 0 to 4 reads (NONE); moved() 0 to 2");
        QuarrelBook x = Books.full();
        x.prices(99, 0, 42);
        x.reads(0, 0, 1);
        x.reads(4, 23, 0);
        List<Integer> values = new ArrayList<>();
        QuarrelBook asked = Books.full();
        add(values, 12, 8, 24, 40, 20, 6, 4);
        for (int c = 0; c < 12; c++) values.add(asked.traits(c));
        int[] said = {9, 9, 6, 0, 0, 0, 0, 0};
        for (int m = 0; m < 8; m++) add(values, 10 * m, 10 * m + 60, m == 0 ? NONE : m - 1, said[m], 7 - m);
        for (int s = 0; s < 24; s++) {
            for (int what = 0; what < 5; what++) values.add(told(asked, "told", s, what));
            for (int copy = 0; copy < 5; copy++) {
                values.add(s == 0 && copy == 0 ? 1 : s == 23 && copy == 4 ? 0 : NONE);
            }
        }
        add(values, 99, 0, 42);
        QuarrelBook other = Books.full();
        for (int m = 0; m < 40; m++) for (int what = 0; what < 3; what++) values.add(told(other, "moved", m, what));
        for (int r = 0; r < 6; r++) {
            values.add(40);
            for (int i = 0; i < 40; i++) values.add(0);
        }
        for (int t = 0; t < 4; t++) {
            values.add(40);
            for (int i = 0; i < 40; i++) values.add(32);
        }
        Check.due("digest() of a full book", x.digest(), mixed(values));
    }

    private static void digestLeavesAllAsItIs() {
        Check.about("52: digest() tells, and changes nothing");
        QuarrelBook x = Books.some();
        long was = x.digest();
        Check.due("digest() again", x.digest(), was);
        Check.due("digest() of another one made alike", Books.some().digest(), was);
        Check.due("upper()", x.upper(), 5);
        Check.due("finding()", x.finding(), Refused.NOUGHT);
    }

    private static void the512thCall() {
        Check.about("An object is used for at most 512 calls");
        QuarrelBook x = new QuarrelBook();
        x.row(0, 1);
        for (int call = 2; call <= 510; call++) x.lay(0, 0, call);
        Check.due("call 511", x.lay(0, 0, 0), 1);
        Check.due("call 512", x.asked(), 510);
    }
}
