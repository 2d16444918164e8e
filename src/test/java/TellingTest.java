/** Promises 46 to 52: what is told. */
public final class TellingTest {
    private static final int BAD = QuarrelBook.BAD, NONE = QuarrelBook.NONE;

    public static void main(String[] args) {
        asked();
        askedStays();
        upperAndLower();
        count();
        findings();
        digestOfNew();
        digestOfAll();
        digestOfEach();
        refusedChangesNothing();
        Check.finish();
    }

    /** Two masters, three cases, three sayings, one move, a row, a text. */
    private static QuarrelBook withSome() {
        QuarrelBook x = new QuarrelBook();
        x.instance(1);
        x.instance(3);
        x.instance(0);
        x.master(10, 80, NONE);
        x.master(20, 90, 0);
        x.saying(0, 0, 30, 1, NONE);
        x.saying(0, 1, 40, 0, 1);
        x.saying(1, 2, 50, 1, NONE);
        x.move(0, 1, 1);
        x.row(2, 2);
        x.lay(2, 0, 9);
        x.text(1, 1);
        x.put(1, 0, 200);
        return x;
    }

    private static void asked() {
        QuarrelBook x = withSome();
        Check.both("lay", x, x.lay(2, 0, 3), 1, 9);
        Check.both("mean", x, x.mean(2), 1, 1);
        Check.both("told", x, x.told(1, 2), 1, 40);
        Check.both("life", x, x.life(1, 1), 1, 90);
        Check.both("settle", x, x.settle(0), 0, 6);
        Check.both("cheap", x, x.cheap(0), 16, 241);
        Check.both("nobody", x, x.nobody(), 2, 0);
        Check.both("changed", x, x.changed(0), 10, 0);
        Check.both("parts", x, x.parts(0, 1), 1, 1);
        Check.both("can", x, x.can(3), 1, 20);
        Check.both("reading", x, x.reading(0), 1, 0);
        Check.both("runs", x, x.runs(2), 2, 0);
        Check.both("moved", x, x.moved(0, 2), 1, 1);
        x.move(2, 6, 0);
        Check.both("follow", x, x.follow(), 1, 1);
        Check.both("law", x, x.law(0, 0), 1, 2);
        Check.both("next", x, x.next(), 4, 2);
    }

    private static void askedStays() {
        QuarrelBook x = withSome();
        x.told(2, 2);
        x.row(0, 3);
        x.tear(0);
        x.copy(2, 0, 2, 0, 1);
        x.text(0, 1);
        x.put(0, 0, 1);
        x.instance(4);
        x.master(1, 2, NONE);
        x.saying(0, 0, 30, 1, NONE);
        x.sayings(0, 30, 2);
        x.traits(0);
        x.fault(1);
        x.rule(1);
        x.answers(3, 3);
        x.fits(0, 0);
        x.prices(1, 2, 3);
        x.costs(0, 0);
        x.second(0);
        x.cheapAt(0, 0);
        x.all();
        x.against(0);
        x.plain(0);
        x.met(0, 1);
        x.reads(0, 0, 1);
        x.slip(2, 2, 1);
        x.move(0, 2, 1);
        x.mark(0, 1);
        x.lawsPart(0, 1);
        x.fresh(0, 0);
        x.upper();
        x.lower();
        x.count(0);
        x.finding();
        x.findings(1);
        x.digest();
        Check.due("asked() behind all that tells nothing aside", x.asked(), 50);
        int[] refused = {x.lay(9, 0, 0), x.lay(0, 0, 0), x.lay(2, 7, 0), x.mean(9), x.mean(0), x.told(99, 0),
            x.life(9, 0), x.settle(9), x.cheap(9), x.changed(9), x.parts(0, 99), x.can(0), x.reading(99), x.runs(99),
            x.moved(99, 0), x.law(3, 0)};
        for (int answer : refused) Check.holds("refused: " + answer, answer == BAD || answer == QuarrelBook.FINDING);
        Check.due("asked() behind what is refused", x.asked(), 50);
    }

    private static void upperAndLower() {
        QuarrelBook x = new QuarrelBook();
        Check.due("upper() before", x.upper(), 0);
        Check.due("lower() before", x.lower(), 1);
        x.slip(2, 3, 1);
        Check.due("upper()", x.upper(), 5);
        Check.due("lower()", x.lower(), 9);
        x.slip(2, 4, 5);
        Check.due("upper() when refused", x.upper(), 5);
        Check.due("lower() when refused", x.lower(), 9);
        x.slip(2, 2, 1);
        Check.due("upper() anew", x.upper(), 3);
        Check.due("lower() anew", x.lower(), 4);
    }

    private static void count() {
        QuarrelBook x = withSome();
        x.row(5, 0);
        x.row(5, 1);
        x.move(0, 0, 0);
        x.move(1, 1, 0);
        int[] want = {3, 2, 3, 3, 2, 2, 1};
        for (int what = 0; what < 7; what++) Check.due("count(" + what + ")", x.count(what), want[what]);
        x.tear(2);
        x.follow();
        Check.due("count(5), one torn", x.count(5), 1);
        Check.due("count(4), followed", x.count(4), 2);
        Check.due("count(7)", x.count(7), BAD);
        Check.due("count(-1)", x.count(-1), BAD);
    }

    private static void findings() {
        QuarrelBook x = withSome();
        Check.due("finding() before any", x.finding(), 0);
        x.lay(0, 0, 0);
        x.rule(3);
        x.lay(2, 2, 0);
        x.mark(0, 2);
        x.row(4, 0);
        x.mean(4);
        x.mean(4);
        x.text(0, -1);
        x.row(0, -1);
        x.copy(0, 0, 0, 0, -1);
        Check.due("finding()", x.finding(), 5);
        x.rule(1);
        x.lay(9, 0, 0);
        x.instance(99);
        Check.due("finding() behind BAD, STATE", x.finding(), 5);
        int[] want = {2, 1, 1, 2, 3};
        for (int f = 1; f <= 5; f++) Check.due("findings(" + f + ")", x.findings(f), want[f - 1]);
        Check.due("findings(0)", x.findings(0), BAD);
        Check.due("findings(6)", x.findings(6), BAD);
        Check.due("findings(-1)", x.findings(-1), BAD);
        x.tear(0);
        Check.due("finding() anew", x.finding(), 1);
    }

    private static long mixed(long... values) {
        long h = 17;
        for (long v : values) h = 31 * h + v;
        return h;
    }

    private static void digestOfNew() {
        Check.due("digest() of a new book", new QuarrelBook().digest(),
            mixed(0, 0, 0, 0, 0, 0, 0, 3, 5, 7, -1, -1, -1, -1, -1, -1, -1, -1, -1, -1));
    }

    private static void digestOfAll() {
        QuarrelBook x = withSome();
        x.reads(3, 1, 0);
        x.move(2, 6, 77);
        x.prices(11, 12, 13);
        Check.due("digest()", x.digest(), mixed(
            3, 2, 3, 2, 1, 1, 1,
            1, 3, 0,
            10, 80, NONE, 2, 1,
            20, 90, 0, 1, 0,
            0, 0, 30, 1, NONE, NONE, NONE, NONE, NONE, NONE,
            0, 1, 40, 0, 1, NONE, NONE, NONE, 0, NONE,
            1, 2, 50, 1, NONE, NONE, NONE, NONE, NONE, NONE,
            11, 12, 13,
            1, 0, 1,
            6, 2, 0,
            -1, -1, 2, 9, 0, -1, -1, -1,
            -1, 1, -56, -1, -1));
    }

    private static void digestOfEach() {
        long plain = withSome().digest();
        QuarrelBook x = withSome();
        Check.due("digest() of the same", x.digest(), plain);
        x.told(0, 2);
        x.slip(3, 3, 3);
        x.follow();
        x.settle(0);
        x.runs(0);
        x.lay(9, 9, 9);
        x.tear(0);
        Check.due("digest() behind what changes nothing", x.digest(), plain);
        x.lay(2, 1, 1);
        Check.holds("a place laid changes the digest", x.digest() != plain);
        x.lay(2, 1, 0);
        Check.due("digest() with the place as it was", x.digest(), plain);
        x.reads(4, 2, 1);
        Check.holds("a copy changes the digest", x.digest() != plain);
        x.reads(4, 2, NONE);
        Check.due("digest() without the copy", x.digest(), plain);
    }

    private static void refusedChangesNothing() {
        QuarrelBook x = withSome();
        long was = x.digest();
        x.row(2, 41);
        x.row(2, -1);
        x.copy(2, 1, 2, 0, 2);
        x.text(1, 41);
        x.put(1, 1, 5);
        x.instance(32);
        x.master(5, 4, NONE);
        x.saying(0, 0, 81, 1, NONE);
        x.lay(2, 1, 77);
        long laid = x.digest();
        x.sayings(0, 30, 2);
        Check.due("digest() behind refused sayings", x.digest(), laid);
        x.lay(2, 1, 0);
        x.prices(1, 1, 100);
        x.reads(0, 0, 2);
        x.move(0, 1, 0);
        Check.due("digest() behind what was refused", x.digest(), was);
    }
}
