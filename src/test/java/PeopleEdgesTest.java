import java.util.List;
import java.util.function.Supplier;

/** The boundary cases of promises 9 to 15, a sentence of the document after the other. */
public final class PeopleEdgesTest {
    private static final int FULL = QuarrelBook.FULL, NONE = QuarrelBook.NONE;
    private static final int MIN = Integer.MIN_VALUE, MAX = Integer.MAX_VALUE;
    // Numbers that are neither NONE nor that of anything.
    private static final int[] NOBODY = {-1, -2, -8, -10, MIN, MAX};

    public static void main(String[] args) {
        casesHaveSetsOfFiveTraits();
        casesAreTwelveAtMost();
        yearsAre0To999();
        mastersDieNoEarlier();
        teachersAreEarlierMasters();
        mastersAreEightAtMost();
        sayingsAreOfAMasterAndACase();
        sayingsAreOfAYearOfHisLife();
        sayingsAnswer0Or1();
        sayingsHaveABecauseOrNone();
        sayingsAreNineOfOneAtMost();
        sayingsAre24AtMost();
        sayingsByBytes();
        sayingsByBits();
        sayingsOfAnEmptyRow();
        sayingsOfAYear();
        sayingsUnlike();
        sayingsOfTheLastCase();
        sayingsFullByHis();
        sayingsFullByAll();
        sayingsRefusedInOrder();
        toldEdges();
        toldRefused();
        traitsEdges();
        lifeEdges();
        lifeOfPupils();
        lifeRefused();
        Check.finish();
    }

    private static void casesHaveSetsOfFiveTraits() {
        Check.about("TRAITS are 0 .. 4; CASES have a set of them (bits)");
        for (int traits = 0; traits < 32; traits++) {
            QuarrelBook x = new QuarrelBook();
            Check.due("instance(" + traits + ")", x.instance(traits), 0);
            Check.due("its traits", x.traits(0), traits);
        }
        for (int traits : new int[] {-1, 32, 33, 64, -9, -32, MIN, MIN + 1, MAX}) {
            Refused.bad(Books::fresh, "instance", traits);
            Refused.bad(Books::some, "instance", traits);
        }
        QuarrelBook x = new QuarrelBook();
        Check.due("instance(5)", x.instance(5), 0);
        Check.due("instance(5), the same set is another case", x.instance(5), 1);
    }

    private static void casesAreTwelveAtMost() {
        Check.about("CASES 0, 1, .. (12 at most ever)");
        QuarrelBook x = new QuarrelBook();
        for (int c = 0; c < 12; c++) Check.due("instance(" + c + ")", x.instance(c), c);
        Check.due("count(0)", x.count(0), 12);
        Check.due("traits(11)", x.traits(11), 11);
        Check.due("a thirteenth", x.instance(12), FULL);
        Check.due("count(0)", x.count(0), 12);
        for (int traits : new int[] {0, 1, 31}) Refused.full(Books::full, "instance", traits);
        Check.about("9: BAD ahead of FULL");
        for (int traits : new int[] {-1, 32, MIN, MAX}) Refused.bad(Books::full, "instance", traits);
    }

    private static void yearsAre0To999() {
        Check.about("MASTERS are born in a year (0 .. 999)");
        QuarrelBook x = new QuarrelBook();
        Check.due("master(0, 999, NONE)", x.master(0, 999, NONE), 0);
        Check.due("master(0, 0, NONE)", x.master(0, 0, NONE), 1);
        Check.due("master(999, 999, NONE)", x.master(999, 999, NONE), 2);
        Check.both("life(0, 1)", x, x.life(0, 1), 1, 999);
        Check.both("life(2, 0)", x, x.life(2, 0), 1, 999);
        for (int year : new int[] {-1, 1000, 1001, -9, MIN, MAX}) {
            Refused.bad(Books::some, "master", year, 999, NONE);
            Refused.bad(Books::some, "master", 0, year, NONE);
            Refused.bad(Books::some, "master", year, year, NONE);
        }
        Refused.bad(Books::fresh, "master", -1, 5, NONE);
        Refused.bad(Books::fresh, "master", 999, 1000, NONE);
        Refused.bad(Books::fresh, "master", MIN, MAX, NONE);
    }

    private static void mastersDieNoEarlier() {
        Check.about("MASTERS die in one (no earlier)");
        QuarrelBook x = new QuarrelBook();
        Check.due("master(500, 500, NONE), in the same year", x.master(500, 500, NONE), 0);
        Check.due("master(500, 501, NONE)", x.master(500, 501, NONE), 1);
        Refused.bad(Books::fresh, "master", 500, 499, NONE);
        Refused.bad(Books::some, "master", 1, 0, NONE);
        Refused.bad(Books::some, "master", 999, 0, NONE);
        Refused.bad(Books::some, "master", 999, 998, 0);
    }

    private static void teachersAreEarlierMasters() {
        Check.about("MASTERS have a teacher (an earlier MASTER) or none");
        QuarrelBook x = new QuarrelBook();
        Check.due("master(900, 950, NONE), the first", x.master(900, 950, NONE), 0);
        Check.due("master(0, 10, 0): earlier by number, not by years", x.master(0, 10, 0), 1);
        Check.due("master(0, 10, 1), the one just ahead", x.master(0, 10, 1), 2);
        Check.due("master(0, 10, 0), the first one again", x.master(0, 10, 0), 3);
        for (int teacher : NOBODY) {
            Refused.bad(Books::fresh, "master", 0, 9, teacher);
            Refused.bad(Books::some, "master", 0, 9, teacher);
        }
        Refused.bad(Books::fresh, "master", 0, 9, 0);
        Refused.bad(Books::some, "master", 0, 9, 3);
        Refused.bad(Books::some, "master", 0, 9, 4);
    }

    private static void mastersAreEightAtMost() {
        Check.about("MASTERS 0, 1, .. (8 at most ever)");
        QuarrelBook x = new QuarrelBook();
        for (int m = 0; m < 8; m++) Check.due("master " + m, x.master(m, m, NONE), m);
        Check.due("count(1)", x.count(1), 8);
        Check.both("life(7, 0)", x, x.life(7, 0), 1, 7);
        Check.due("a ninth", x.master(0, 0, NONE), FULL);
        Refused.full(Books::full, "master", 0, 999, NONE);
        Refused.full(Books::full, "master", 0, 0, 7);
        Refused.full(Books::full, "master", 999, 999, 0);
        Check.about("10: BAD ahead of FULL");
        int[][] bad = {{-1, 5, NONE}, {1000, 1000, NONE}, {5, 1000, NONE}, {5, 4, NONE}, {5, 6, 8}, {5, 6, -1},
            {5, 6, MAX}, {MIN, MAX, MIN}};
        for (int[] one : bad) Refused.bad(Books::full, "master", one);
    }

    private static void sayingsAreOfAMasterAndACase() {
        Check.about("SAYINGS are of a MASTER, a CASE");
        QuarrelBook x = Books.some();
        Check.due("saying(0, 0, 30, 1, NONE)", x.saying(0, 0, 30, 1, NONE), 4);
        Check.due("saying(2, 2, 30, 1, NONE), the last of both", x.saying(2, 2, 30, 1, NONE), 5);
        for (int none : NOBODY) {
            Refused.bad(Books::some, "saying", none, 0, 30, 1, NONE);
            Refused.bad(Books::some, "saying", 0, none, 30, 1, NONE);
        }
        for (int none : new int[] {3, 4, NONE}) {
            Refused.bad(Books::some, "saying", none, 0, 30, 1, NONE);
            Refused.bad(Books::some, "saying", 0, none, 30, 1, NONE);
        }
        Refused.bad(Books::fresh, "saying", 0, 0, 0, 0, NONE);
        Check.about("SAYINGS of a MASTER while there is no CASE, of a CASE while there is no MASTER");
        Supplier<QuarrelBook> masterAlone = () -> {
            QuarrelBook y = new QuarrelBook();
            y.master(0, 9, NONE);
            return y;
        };
        Supplier<QuarrelBook> caseAlone = () -> {
            QuarrelBook y = new QuarrelBook();
            y.instance(0);
            return y;
        };
        Refused.bad(masterAlone, "saying", 0, 0, 0, 0, NONE);
        Refused.bad(caseAlone, "saying", 0, 0, 0, 0, NONE);
    }

    private static void sayingsAreOfAYearOfHisLife() {
        Check.about("11: BAD: also a year that is not of his life");
        QuarrelBook x = Books.some();
        Check.due("saying(0, 0, 10, 1, NONE), born in it", x.saying(0, 0, 10, 1, NONE), 4);
        Check.due("saying(0, 0, 80, 1, NONE), died in it", x.saying(0, 0, 80, 1, NONE), 5);
        Check.due("saying(2, 0, 30, 1, NONE), his only year", x.saying(2, 0, 30, 1, NONE), 6);
        for (int year : new int[] {9, 81, -1, 0, 999, 1000, NONE, MIN, MAX}) {
            Refused.bad(Books::some, "saying", 0, 0, year, 1, NONE);
        }
        for (int year : new int[] {19, 91}) Refused.bad(Books::some, "saying", 1, 0, year, 1, NONE);
        for (int year : new int[] {29, 31}) Refused.bad(Books::some, "saying", 2, 0, year, 1, NONE);
    }

    private static void sayingsAnswer0Or1() {
        Check.about("answer 1 owed or 0 not");
        QuarrelBook x = Books.some();
        Check.due("saying(0, 0, 30, 0, NONE)", x.saying(0, 0, 30, 0, NONE), 4);
        Check.due("saying(0, 0, 30, 1, NONE)", x.saying(0, 0, 30, 1, NONE), 5);
        Check.both("told(4, 3)", x, x.told(4, 3), 1, 0);
        Check.both("told(5, 3)", x, x.told(5, 3), 1, 1);
        for (int answer : new int[] {-1, 2, 3, NONE, MIN, MAX}) {
            Refused.bad(Books::some, "saying", 0, 0, 30, answer, NONE);
        }
    }

    private static void sayingsHaveABecauseOrNone() {
        Check.about("have a because (a TRAIT) or none (NONE)");
        QuarrelBook x = Books.some();
        for (int trait = 0; trait < 5; trait++) {
            Check.due("saying(1, 0, 30, 1, " + trait + ")", x.saying(1, 0, 30, 1, trait), 4 + trait);
            Check.both("its because", x, x.told(4 + trait, 4), 1, trait);
        }
        Check.due("saying(1, 0, 30, 1, NONE)", x.saying(1, 0, 30, 1, NONE), 9);
        Check.both("its because", x, x.told(9, 4), 1, NONE);
        Check.due("saying(1, 2, 30, 1, 0), a trait that the case has not", x.saying(1, 2, 30, 1, 0), 10);
        for (int because : NOBODY) Refused.bad(Books::some, "saying", 0, 0, 30, 1, because);
        for (int because : new int[] {5, 6, 31}) Refused.bad(Books::some, "saying", 0, 0, 30, 1, because);
    }

    private static void sayingsAreNineOfOneAtMost() {
        Check.about("11: FULL: 9 of him");
        QuarrelBook x = Books.nineOfOne();
        Check.due("count(2)", x.count(2), 9);
        Check.due("a tenth of him", x.saying(0, 0, 100, 1, NONE), FULL);
        Check.due("one of another", x.saying(1, 0, 100, 1, NONE), 9);
        Check.both("life(0, 3)", x, x.life(0, 3), 1, 9);
        Refused.full(Books::nineOfOne, "saying", 0, 1, 150, 0, 4);
        Check.about("11: BAD ahead of FULL");
        int[][] bad = {{0, 2, 100, 1, NONE}, {0, -1, 100, 1, NONE}, {0, 0, 99, 1, NONE}, {0, 0, 151, 1, NONE},
            {0, 0, 100, 2, NONE}, {0, 0, 100, -1, NONE}, {0, 0, 100, 1, 5}, {0, 0, 100, 1, -1}};
        for (int[] one : bad) Refused.bad(Books::nineOfOne, "saying", one);
    }

    private static void sayingsAre24AtMost() {
        Check.about("11: FULL: 24");
        QuarrelBook x = Books.nineOfOne();
        for (int s = 9; s < 18; s++) Check.due("saying " + s, x.saying(1, 0, 100, 1, NONE), s);
        x.master(0, 99, NONE);
        x.master(0, 99, NONE);
        for (int s = 18; s < 23; s++) Check.due("saying " + s, x.saying(2, 0, 50, 1, NONE), s);
        Check.due("the 24th", x.saying(3, 1, 60, 0, 2), 23);
        Check.both("told(23, 2)", x, x.told(23, 2), 1, 60);
        Check.due("a 25th, his sixth", x.saying(2, 0, 50, 1, NONE), FULL);
        Check.due("a 25th, his second", x.saying(3, 0, 50, 1, NONE), FULL);
        Refused.full(Books::full, "saying", 2, 0, 50, 1, NONE);
        Refused.full(Books::full, "saying", 7, 0, 70, 0, 0);
        Refused.full(Books::full, "saying", 0, 11, 60, 0, 4);
        Check.about("11: BAD ahead of FULL");
        int[][] bad = {{8, 0, 70, 1, NONE}, {7, 12, 70, 1, NONE}, {7, 0, 69, 1, NONE}, {7, 0, 131, 1, NONE},
            {7, 0, 70, 2, NONE}, {7, 0, 70, 1, 5}, {MIN, MIN, MIN, MIN, MIN}, {MAX, MAX, MAX, MAX, MAX}};
        for (int[] one : bad) Refused.bad(Books::full, "saying", one);
    }

    /** Some book whose row 0 is as told. */
    private static Supplier<QuarrelBook> withRow(int... places) {
        return () -> {
            QuarrelBook x = Books.some();
            Books.layRow(x, 0, places);
            return x;
        };
    }

    private static void saysOne(int place, int instance, int answer) {
        QuarrelBook x = new QuarrelBook();
        for (int c = 0; c < 12; c++) x.instance(c);
        x.master(0, 99, NONE);
        Books.layRow(x, 4, place);
        Check.due("sayings of " + place, x.sayings(0, 50, 4), 1);
        int[] want = {0, instance, 50, answer, NONE};
        for (int what = 0; what < 5; what++) {
            Check.both("told(0, " + what + ") of " + place, x, x.told(0, what), 1, want[what]);
        }
    }

    private static void sayingsByBytes() {
        Check.about("12: by a ROW of bytes (-128 .. 127)");
        saysOne(0, 0, 0);
        saysOne(-128, 0, 0);
        saysOne(-127, 1, 0);
        saysOne(127 - 15, 0, 1);
        saysOne(127 - 4, 11, 1);
        for (int v : new int[] {128, 129, -129, -130, 144, 256, 272, -256, 65536, MAX, MIN, MIN + 16}) {
            Refused.finds(Refused.UNLIKE, withRow(v), "sayings", 0, 30, 0);
            Refused.finds(Refused.UNLIKE, withRow(0, 1, v), "sayings", 0, 30, 0);
            Refused.finds(Refused.UNLIKE, withRow(v, 0, 1), "sayings", 0, 30, 0);
        }
    }

    private static void sayingsByBits() {
        Check.about("12: bits 0 to 3 the CASE, 4 the answer; without because");
        for (int c = 0; c < 12; c++) {
            for (int high = -8; high < 8; high++) saysOne(16 * high + c, c, high & 1);
        }
    }

    private static void sayingsOfAnEmptyRow() {
        Check.about("12: how many: 0 of an empty ROW");
        for (Supplier<QuarrelBook> begun : List.<Supplier<QuarrelBook>>of(Books::some, Books::full)) {
            QuarrelBook x = begun.get();
            x.row(5, 0);
            long was = x.digest();
            Check.due("sayings(0, 30, 5)", x.sayings(0, 30, 5), 0);
            Check.due("digest() behind it", x.digest(), was);
        }
        QuarrelBook x = new QuarrelBook();
        x.master(3, 3, NONE);
        x.row(0, 0);
        Check.due("sayings(0, 3, 0) without any case", x.sayings(0, 3, 0), 0);
        x.row(0, 1);
        Check.finds("sayings(0, 3, 0) of case 0 without any case", x, x.sayings(0, 3, 0), Refused.UNLIKE);
    }

    private static void sayingsOfAYear() {
        Check.about("12: BAD: a year that is not of his life");
        QuarrelBook x = withRow(0, 17).get();
        Check.due("sayings(0, 10, 0), born in it", x.sayings(0, 10, 0), 2);
        Check.due("sayings(0, 80, 0), died in it", x.sayings(0, 80, 0), 2);
        Check.due("sayings(2, 30, 0), his only year", x.sayings(2, 30, 0), 2);
        Check.both("told(9, 2)", x, x.told(9, 2), 1, 30);
        for (int year : new int[] {9, 81, -1, 1000, MIN, MAX}) Refused.bad(withRow(0, 17), "sayings", 0, year, 0);
        for (int year : new int[] {29, 31}) Refused.bad(withRow(0, 17), "sayings", 2, year, 0);
        for (int year : new int[] {9, 81}) Refused.bad(withRow(), "sayings", 0, year, 0);
    }

    private static void sayingsUnlike() {
        Check.about("12: UNLIKE: a CASE that there is not; all or none");
        QuarrelBook x = withRow(0, 1, 2, 18).get();
        Check.due("sayings(0, 30, 0) of the last case", x.sayings(0, 30, 0), 4);
        for (int v : new int[] {3, 4, 12, 15, 19, 31, -13, -1, 127}) {
            Refused.finds(Refused.UNLIKE, withRow(v), "sayings", 0, 30, 0);
            Refused.finds(Refused.UNLIKE, withRow(0, 17, v), "sayings", 0, 30, 0);
            Refused.finds(Refused.UNLIKE, withRow(v, 0, 17), "sayings", 0, 30, 0);
        }
    }

    private static void sayingsOfTheLastCase() {
        Check.about("12: UNLIKE: a CASE that there is not, of twelve");
        for (int v : new int[] {12, 13, 14, 15, 28, -4, -1}) {
            Supplier<QuarrelBook> begun = () -> {
                QuarrelBook x = new QuarrelBook();
                for (int c = 0; c < 12; c++) x.instance(c);
                x.master(0, 9, NONE);
                Books.layRow(x, 0, 11, v);
                return x;
            };
            Refused.finds(Refused.UNLIKE, begun, "sayings", 0, 9, 0);
        }
    }

    private static void sayingsFullByHis() {
        Check.about("12: FULL: not all would go: 9 of him");
        QuarrelBook x = new QuarrelBook();
        x.instance(0);
        x.master(0, 9, NONE);
        x.row(0, 9);
        x.row(1, 10);
        x.row(2, 1);
        Check.due("ten at once", x.sayings(0, 5, 1), FULL);
        Check.due("count(2): none of them went", x.count(2), 0);
        Check.due("nine at once", x.sayings(0, 5, 0), 9);
        Check.due("one more", x.sayings(0, 5, 2), FULL);
        Check.due("count(2)", x.count(2), 9);
        Supplier<QuarrelBook> eight = () -> {
            QuarrelBook y = withRow(0, 1).get();
            for (int s = 0; s < 6; s++) y.saying(0, 0, 30, 1, NONE);
            return y;
        };
        Refused.full(eight, "sayings", 0, 30, 0);
        QuarrelBook y = eight.get();
        y.row(0, 1);
        Check.due("his ninth", y.sayings(0, 30, 0), 1);
        Refused.full(withRow(new int[40]), "sayings", 2, 30, 0);
    }

    private static void sayingsFullByAll() {
        Check.about("12: FULL: not all would go: 24");
        Supplier<QuarrelBook> sixLeft = () -> {
            QuarrelBook x = Books.nineOfOne();
            for (int s = 0; s < 9; s++) x.saying(1, 0, 100, 1, NONE);
            x.master(0, 9, NONE);
            x.row(0, 6);
            x.row(1, 7);
            x.row(2, 1);
            return x;
        };
        QuarrelBook x = sixLeft.get();
        Check.due("six", x.sayings(2, 5, 0), 6);
        Check.due("count(2)", x.count(2), 24);
        Check.due("one more", x.sayings(2, 5, 2), FULL);
        Refused.full(sixLeft, "sayings", 2, 5, 1);
        Refused.full(Books::full, "sayings", 7, 70, 0);
    }

    private static void sayingsRefusedInOrder() {
        Check.about("12: BAD; NOTHING; UNLIKE; FULL. (In this order)");
        for (int m : new int[] {-1, 3, NONE, MIN, MAX}) {
            Refused.bad(withRow(0), "sayings", m, 30, 0);
            Refused.bad(Books::some, "sayings", m, 30, 3);
            Refused.bad(withRow(128), "sayings", m, 30, 0);
            Refused.bad(withRow(new int[40]), "sayings", m, 30, 0);
        }
        for (int r : new int[] {-1, 6, MIN, MAX}) Refused.bad(Books::some, "sayings", 0, 30, r);
        Refused.bad(Books::some, "sayings", 0, 81, 3);
        Refused.bad(withRow(128), "sayings", 0, 81, 0);
        Refused.bad(withRow(new int[40]), "sayings", 0, 81, 0);
        Refused.finds(Refused.NOTHING, Books::some, "sayings", 0, 30, 3);
        Refused.finds(Refused.NOTHING, Books::some, "sayings", 0, 30, 5);
        Refused.finds(Refused.NOTHING, Books::nineOfOne, "sayings", 0, 100, 0);
        int[] forty = new int[40];
        forty[39] = 128;
        Refused.finds(Refused.UNLIKE, withRow(forty), "sayings", 0, 30, 0);
        forty = new int[40];
        forty[0] = 3;
        Refused.finds(Refused.UNLIKE, withRow(forty), "sayings", 0, 30, 0);
        Supplier<QuarrelBook> nineAndUnlike = () -> {
            QuarrelBook x = Books.nineOfOne();
            Books.layRow(x, 0, 2);
            return x;
        };
        Refused.finds(Refused.UNLIKE, nineAndUnlike, "sayings", 0, 100, 0);
        Refused.full(withRow(new int[40]), "sayings", 0, 30, 0);
    }

    private static void toldEdges() {
        Check.about("13: 0 MASTER, 1 CASE, 2 year, 3 answer, 4 because");
        QuarrelBook x = Books.some();
        int[][] want = {{0, 0, 30, 1, NONE}, {0, 1, 40, 0, 1}, {1, 2, 50, 1, NONE}, {1, 0, 90, 0, 0}};
        for (int s = 0; s < 4; s++) {
            for (int what = 0; what < 5; what++) {
                Check.both("told(" + s + ", " + what + ")", x, x.told(s, what), 1, want[s][what]);
            }
        }
    }

    private static void toldRefused() {
        Check.about("13: BAD");
        for (int what : new int[] {-1, 5, NONE, MIN, MAX}) Refused.bad(Books::some, "told", 0, what);
        for (int s : new int[] {-1, 4, 23, NONE, MIN, MAX}) Refused.bad(Books::some, "told", s, 0);
        Refused.bad(Books::full, "told", 24, 0);
        Refused.bad(Books::full, "told", 23, 5);
    }

    private static void traitsEdges() {
        Check.about("14: TRAITS of a CASE (bits). BAD");
        QuarrelBook x = Books.full();
        Check.due("traits(0)", x.traits(0), 1);
        Check.due("traits(2), none", x.traits(2), 0);
        Check.due("traits(3), all", x.traits(3), 31);
        Check.due("traits(11)", x.traits(11), 30);
        for (int c : new int[] {-1, 12, NONE, MIN, MAX}) Refused.bad(Books::full, "traits", c);
        for (int c : new int[] {-1, 3, 11, NONE, MIN, MAX}) Refused.bad(Books::some, "traits", c);
    }

    private static void lifeEdges() {
        Check.about("15: 0 born, 1 dies, 2 teacher (NONE), 3 how many SAYINGS, 4 how many pupils");
        QuarrelBook x = Books.some();
        int[][] want = {{10, 80, NONE, 2, 2}, {20, 90, 0, 2, 1}, {30, 30, 1, 0, 0}};
        for (int m = 0; m < 3; m++) {
            for (int what = 0; what < 5; what++) {
                Check.both("life(" + m + ", " + what + ")", x, x.life(m, what), 1, want[m][what]);
            }
        }
    }

    private static void lifeOfPupils() {
        Check.about("15: how many pupils (all that lead back to him)");
        QuarrelBook x = Books.full();
        for (int m = 0; m < 8; m++) Check.both("life(" + m + ", 4), one behind the other", x, x.life(m, 4), 1, 7 - m);
        QuarrelBook y = new QuarrelBook();
        for (int m = 0; m < 8; m++) y.master(0, 9, m == 0 ? NONE : 0);
        Check.both("life(0, 4), seven of one", y, y.life(0, 4), 1, 7);
        for (int m = 1; m < 8; m++) Check.both("life(" + m + ", 4)", y, y.life(m, 4), 1, 0);
        QuarrelBook z = new QuarrelBook();
        for (int m = 0; m < 8; m++) z.master(0, 9, NONE);
        for (int m = 0; m < 8; m++) Check.both("life(" + m + ", 4), no pupils", z, z.life(m, 4), 1, 0);
        for (int m = 0; m < 8; m++) Check.both("life(" + m + ", 2), no teachers", z, z.life(m, 2), 1, NONE);
    }

    private static void lifeRefused() {
        Check.about("15: BAD");
        for (int what : new int[] {-1, 5, NONE, MIN, MAX}) Refused.bad(Books::some, "life", 0, what);
        for (int m : new int[] {-1, 3, 7, NONE, MIN, MAX}) Refused.bad(Books::some, "life", m, 0);
        Refused.bad(Books::full, "life", 8, 0);
        Refused.bad(Books::full, "life", 7, 5);
    }
}
