/** Promises 9 to 15: cases, masters, sayings. */
public final class PeopleTest {
    private static final int BAD = QuarrelBook.BAD, FULL = QuarrelBook.FULL, NONE = QuarrelBook.NONE;
    private static final int NOTHING = 1, UNLIKE = 3;

    public static void main(String[] args) {
        instance();
        master();
        saying();
        sayingFull();
        sayings();
        sayingsRefused();
        told();
        traits();
        life();
        Check.finish();
    }

    private static void instance() {
        QuarrelBook x = new QuarrelBook();
        Check.due("instance(-1)", x.instance(-1), BAD);
        Check.due("instance(32)", x.instance(32), BAD);
        for (int c = 0; c < 12; c++) Check.due("instance " + c, x.instance(c == 0 ? 0 : 32 - c), c);
        Check.due("instance(0), a 13th", x.instance(0), FULL);
        Check.due("instance(32): bad ahead of full", x.instance(32), BAD);
        Check.due("count(0)", x.count(0), 12);
    }

    private static void master() {
        QuarrelBook x = new QuarrelBook();
        Check.due("master(-1, 5, NONE)", x.master(-1, 5, NONE), BAD);
        Check.due("master(1000, 1000, NONE)", x.master(1000, 1000, NONE), BAD);
        Check.due("master(0, 1000, NONE)", x.master(0, 1000, NONE), BAD);
        Check.due("master(9, 8, NONE)", x.master(9, 8, NONE), BAD);
        Check.due("master(0, 9, 0), himself", x.master(0, 9, 0), BAD);
        Check.due("master(0, 9, -1)", x.master(0, 9, -1), BAD);
        Check.due("master(0, 0, NONE)", x.master(0, 0, NONE), 0);
        Check.due("master(999, 999, 0)", x.master(999, 999, 0), 1);
        Check.due("master(0, 9, 2)", x.master(0, 9, 2), BAD);
        for (int m = 2; m < 8; m++) Check.due("master " + m, x.master(m, 50 + m, m - 1), m);
        Check.due("master(0, 1, NONE), a 9th", x.master(0, 1, NONE), FULL);
        Check.due("master(1, 0, NONE): bad ahead of full", x.master(1, 0, NONE), BAD);
        Check.due("count(1)", x.count(1), 8);
    }

    private static QuarrelBook withOneMaster() {
        QuarrelBook x = new QuarrelBook();
        x.instance(5);
        x.instance(6);
        x.master(100, 150, NONE);
        return x;
    }

    private static void saying() {
        QuarrelBook x = withOneMaster();
        Check.due("saying(1, 0, 120, 1, NONE)", x.saying(1, 0, 120, 1, NONE), BAD);
        Check.due("saying(-1, 0, 120, 1, NONE)", x.saying(-1, 0, 120, 1, NONE), BAD);
        Check.due("saying(0, 2, 120, 1, NONE)", x.saying(0, 2, 120, 1, NONE), BAD);
        Check.due("saying(0, -1, 120, 1, NONE)", x.saying(0, -1, 120, 1, NONE), BAD);
        Check.due("saying(0, 0, 99, 1, NONE)", x.saying(0, 0, 99, 1, NONE), BAD);
        Check.due("saying(0, 0, 151, 1, NONE)", x.saying(0, 0, 151, 1, NONE), BAD);
        Check.due("saying(0, 0, 120, 2, NONE)", x.saying(0, 0, 120, 2, NONE), BAD);
        Check.due("saying(0, 0, 120, -1, NONE)", x.saying(0, 0, 120, -1, NONE), BAD);
        Check.due("saying(0, 0, 120, NONE, NONE)", x.saying(0, 0, 120, NONE, NONE), BAD);
        Check.due("saying(0, 0, 120, 1, 5)", x.saying(0, 0, 120, 1, 5), BAD);
        Check.due("saying(0, 0, 120, 1, -1)", x.saying(0, 0, 120, 1, -1), BAD);
        Check.due("count(2)", x.count(2), 0);
        Check.due("saying(0, 0, 100, 1, 0)", x.saying(0, 0, 100, 1, 0), 0);
        Check.due("saying(0, 1, 150, 0, 4)", x.saying(0, 1, 150, 0, 4), 1);
        Check.due("saying(0, 1, 150, 0, NONE)", x.saying(0, 1, 150, 0, NONE), 2);
        Check.due("count(2)", x.count(2), 3);
    }

    private static void sayingFull() {
        QuarrelBook x = withOneMaster();
        x.master(0, 50, NONE);
        x.master(0, 50, NONE);
        for (int s = 0; s < 9; s++) Check.due("saying " + s, x.saying(0, 0, 100, 1, NONE), s);
        Check.due("a tenth one of him", x.saying(0, 0, 100, 1, NONE), FULL);
        Check.due("a wrong one of him: bad ahead of full", x.saying(0, 0, 99, 1, NONE), BAD);
        for (int s = 9; s < 18; s++) Check.due("saying " + s, x.saying(1, 0, 1, 1, NONE), s);
        for (int s = 18; s < 24; s++) Check.due("saying " + s, x.saying(2, 0, 1, 1, NONE), s);
        Check.due("a 25th one", x.saying(2, 0, 1, 1, NONE), FULL);
        Check.due("count(2)", x.count(2), 24);
        x.row(0, 0);
        Check.due("sayings of an empty row go when all is full", x.sayings(2, 1, 0), 0);
    }

    private static void sayings() {
        QuarrelBook x = withOneMaster();
        x.row(0, 4);
        x.lay(0, 0, 0x10);
        x.lay(0, 1, 0x01);
        x.lay(0, 2, 0x71);
        x.lay(0, 3, -0x80);
        Check.due("sayings(0, 130, 0)", x.sayings(0, 130, 0), 4);
        int[] cases = {0, 1, 1, 0};
        int[] answers = {1, 0, 1, 0};
        for (int s = 0; s < 4; s++) {
            int[] want = {0, cases[s], 130, answers[s], NONE};
            for (int what = 0; what < 5; what++) {
                Check.both("told(" + s + ", " + what + ")", x, x.told(s, what), 1, want[what]);
            }
        }
        Check.due("sayings(0, 130, 0) again", x.sayings(0, 130, 0), 4);
        Check.due("sayings(0, 130, 0), over nine", x.sayings(0, 130, 0), FULL);
        Check.due("count(2)", x.count(2), 8);
        x.row(0, 1);
        Check.due("sayings(0, 150, 0), the ninth", x.sayings(0, 150, 0), 1);
        Check.due("sayings(0, 150, 0), a tenth", x.sayings(0, 150, 0), FULL);
    }

    private static void sayingsRefused() {
        QuarrelBook x = withOneMaster();
        Check.due("sayings(1, 130, 0)", x.sayings(1, 130, 0), BAD);
        Check.due("sayings(0, 99, 0)", x.sayings(0, 99, 0), BAD);
        Check.due("sayings(0, 151, 0)", x.sayings(0, 151, 0), BAD);
        Check.due("sayings(0, 130, 6)", x.sayings(0, 130, 6), BAD);
        Check.due("sayings(0, 130, -1)", x.sayings(0, 130, -1), BAD);
        Check.finds("sayings(0, 130, 0)", x, x.sayings(0, 130, 0), NOTHING);
        x.row(0, 3);
        int[] unlike = {128, -129, 2, 15, Integer.MAX_VALUE, 256};
        for (int v : unlike) {
            x.lay(0, 2, v);
            Check.finds("sayings of a row with " + v, x, x.sayings(0, 130, 0), UNLIKE);
        }
        Check.due("count(2): all or none", x.count(2), 0);
        x.lay(0, 2, 0);
        x.lay(0, 0, 130);
        Check.finds("sayings of a row that begins with 130", x, x.sayings(0, 130, 0), UNLIKE);
        x.instance(7);
        x.lay(0, 0, 3);
        Check.finds("sayings of a fourth case of three", x, x.sayings(0, 130, 0), UNLIKE);
        x.row(1, 40);
        Check.due("sayings(0, 130, 1): 40", x.sayings(0, 130, 1), FULL);
        x.lay(1, 39, 999);
        Check.finds("sayings(0, 130, 1): unlike ahead of full", x, x.sayings(0, 130, 1), UNLIKE);
        Check.due("count(2)", x.count(2), 0);
    }

    private static void told() {
        QuarrelBook x = withOneMaster();
        x.master(7, 70, 0);
        x.saying(1, 1, 33, 1, 3);
        int[] want = {1, 1, 33, 1, 3};
        for (int what = 0; what < 5; what++) {
            Check.both("told(0, " + what + ")", x, x.told(0, what), 1, want[what]);
        }
        Check.due("told(0, 5)", x.told(0, 5), BAD);
        Check.due("told(0, -1)", x.told(0, -1), BAD);
        Check.due("told(1, 0)", x.told(1, 0), BAD);
        Check.due("told(-1, 0)", x.told(-1, 0), BAD);
        Check.due("asked() stays", x.asked(), 3);
    }

    private static void traits() {
        QuarrelBook x = new QuarrelBook();
        Check.due("traits(0)", x.traits(0), BAD);
        x.instance(31);
        x.instance(0);
        Check.due("traits(0)", x.traits(0), 31);
        Check.due("traits(1)", x.traits(1), 0);
        Check.due("traits(2)", x.traits(2), BAD);
        Check.due("traits(-1)", x.traits(-1), BAD);
    }

    private static void life() {
        QuarrelBook x = new QuarrelBook();
        x.instance(0);
        x.master(10, 60, NONE);
        x.master(30, 90, 0);
        x.master(31, 91, 0);
        x.master(50, 99, 2);
        x.master(51, 98, NONE);
        x.saying(2, 0, 50, 1, NONE);
        x.saying(2, 0, 51, 1, NONE);
        int[][] want = {{10, 60, NONE, 0, 3}, {30, 90, 0, 0, 0}, {31, 91, 0, 2, 1}, {50, 99, 2, 0, 0},
            {51, 98, NONE, 0, 0}};
        for (int m = 0; m < 5; m++) {
            for (int what = 0; what < 5; what++) {
                Check.both("life(" + m + ", " + what + ")", x, x.life(m, what), 1, want[m][what]);
            }
        }
        Check.due("life(5, 0)", x.life(5, 0), BAD);
        Check.due("life(-1, 0)", x.life(-1, 0), BAD);
        Check.due("life(0, 5)", x.life(0, 5), BAD);
        Check.due("life(0, -1)", x.life(0, -1), BAD);
    }
}
