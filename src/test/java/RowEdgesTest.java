import java.util.Arrays;

/** The boundary cases of promises 1 to 8, a sentence of the document after the other. */
public final class RowEdgesTest {
    private static final int MIN = Integer.MIN_VALUE, MAX = Integer.MAX_VALUE;

    public static void main(String[] args) {
        aNewObjectHasNothing();
        aNewObjectHasToldNothing();
        rowsAreNumbered0To5();
        rowsHave0To40Ints();
        aRowAbove40IsBad();
        aRowBelow0IsSize();
        aRowIsThereWithInts0();
        layTakesAnyInt();
        layTellsWhatItWas();
        layRefused();
        tearTakesAnEmptyRowToo();
        tearRefused();
        copyOfNoPlaces();
        copyOfAllPlaces();
        copyAsIfTakenAhead();
        copyBeyond();
        copyBeyondWhereSumsWrap();
        copyRefusedInOrder();
        meanIsCutTowardsNought();
        meanOfTheOutermostInts();
        meanRefused();
        textsAreNumbered0To3();
        textsHave0To40Bytes();
        aTextAbove40IsBad();
        aTextBelow0IsSize();
        aTextIsThereWithBlanks();
        putCutsToAByte();
        putRefused();
        Check.finish();
    }

    private static void aNewObjectHasNothing() {
        Check.about("1: No ROWS, TEXTS, CASES, MASTERS, SAYINGS, MOVES; or missing (at first)");
        for (int what = 0; what <= 6; what++) Check.due("count(" + what + ")", new QuarrelBook().count(what), 0);
        for (int r = 0; r < 6; r++) {
            Refused.finds(Refused.NOTHING, Books::fresh, "tear", r);
            Refused.finds(Refused.NOTHING, Books::fresh, "lay", r, 0, 0);
            Refused.finds(Refused.NOTHING, Books::fresh, "mean", r);
            Refused.finds(Refused.NOTHING, Books::fresh, "copy", r, 0, r, 0, 0);
        }
        for (int t = 0; t < 4; t++) {
            Refused.finds(Refused.NOTHING, Books::fresh, "put", t, 0, 0);
            Refused.finds(Refused.NOTHING, Books::fresh, "fault", t);
            Refused.finds(Refused.NOTHING, Books::fresh, "rule", t);
        }
        Refused.bad(Books::fresh, "traits", 0);
        Refused.bad(Books::fresh, "life", 0, 0);
        Refused.bad(Books::fresh, "told", 0, 0);
        Refused.bad(Books::fresh, "moved", 0, 0);
    }

    private static void aNewObjectHasToldNothing() {
        Check.about("46 to 51: 0 before; lower 1 before; 0 before any");
        QuarrelBook x = new QuarrelBook();
        Check.due("asked()", x.asked(), 0);
        Check.due("upper()", x.upper(), 0);
        Check.due("lower()", x.lower(), 1);
        Check.due("finding()", x.finding(), 0);
        for (int f = 1; f <= 5; f++) Check.due("findings(" + f + ")", x.findings(f), 0);
    }

    private static void rowsAreNumbered0To5() {
        Check.about("ROWS 0 .. 5");
        QuarrelBook x = new QuarrelBook();
        for (int r = 0; r < 6; r++) {
            Check.due("row(" + r + ", 1)", x.row(r, 1), 1);
            Check.due("count(5)", x.count(5), r + 1);
        }
        for (int r : new int[] {-1, 6, -9, MIN, MAX}) {
            Refused.bad(Books::some, "row", r, 0);
            Refused.bad(Books::some, "row", r, 40);
            Refused.bad(Books::full, "row", r, 1);
        }
    }

    private static void rowsHave0To40Ints() {
        Check.about("rows of 0 to 40 ints");
        QuarrelBook x = new QuarrelBook();
        for (int n = 0; n <= 40; n++) {
            Check.due("row(3, " + n + ")", x.row(3, n), n);
            if (n > 0) Check.due("its last place", x.lay(3, n - 1, 5), 1);
            Check.finds("lay(3, " + n + ", 5)", x, x.lay(3, n, 5), Refused.BEYOND);
        }
        Check.due("count(5)", x.count(5), 1);
    }

    private static void aRowAbove40IsBad() {
        Check.about("2: BAD: also n above 40");
        for (int n : new int[] {41, 42, 80, 256, 65536, MAX}) {
            Refused.bad(Books::fresh, "row", 0, n);
            Refused.bad(Books::some, "row", 0, n);
            Refused.bad(Books::some, "row", 5, n);
        }
    }

    private static void aRowBelow0IsSize() {
        Check.about("2: SIZE: below 0");
        for (int n : new int[] {-1, -2, -9, -40, MIN + 1, MIN}) {
            Refused.finds(Refused.SIZE, Books::fresh, "row", 0, n);
            Refused.finds(Refused.SIZE, Books::some, "row", 0, n);
            Refused.finds(Refused.SIZE, Books::some, "row", 5, n);
        }
        Check.about("2: BAD ahead of SIZE");
        for (int n : new int[] {-1, MIN}) {
            Refused.bad(Books::some, "row", -1, n);
            Refused.bad(Books::some, "row", 6, n);
            Refused.bad(Books::some, "row", MIN, n);
            Refused.bad(Books::some, "row", MAX, n);
        }
    }

    private static void aRowIsThereWithInts0() {
        Check.about("2: A ROW is there with n ints 0");
        QuarrelBook x = new QuarrelBook();
        x.row(4, 40);
        for (int i = 0; i < 40; i++) x.lay(4, i, i + 1);
        Check.due("row(4, 3), a shorter one", x.row(4, 3), 3);
        for (int i = 0; i < 3; i++) Check.both("place " + i, x, x.lay(4, i, 9), 1, 0);
        Check.due("row(4, 40), a longer one again", x.row(4, 40), 40);
        for (int i = 0; i < 40; i++) Check.both("place " + i, x, x.lay(4, i, 9), 1, 0);
        x.tear(4);
        x.row(4, 2);
        Check.both("place 1 of what was torn and is there again", x, x.lay(4, 1, 9), 1, 0);
    }

    private static void layTakesAnyInt() {
        Check.about("3: Place i of a ROW is v");
        for (int v : new int[] {MIN, MIN + 1, -129, -1, 0, 1, 128, 65536, MAX - 1, MAX}) {
            QuarrelBook x = new QuarrelBook();
            x.row(0, 2);
            Check.both("lay(0, 1, " + v + ")", x, x.lay(0, 1, v), 1, 0);
            Check.both("lay(0, 1, 0) behind it", x, x.lay(0, 1, 0), 1, v);
            Check.both("lay(0, 0, 0), a place beside it", x, x.lay(0, 0, 0), 1, 0);
        }
    }

    private static void layTellsWhatItWas() {
        Check.about("3: what it was, told by asked(): 1");
        QuarrelBook x = Books.some();
        int[] was = {7, -3, 16, 1, 0};
        for (int i = 0; i < 5; i++) Check.both("lay(0, " + i + ", 100)", x, x.lay(0, i, 100 + i), 1, was[i]);
        for (int i = 0; i < 5; i++) Check.both("lay(0, " + i + ", 0)", x, x.lay(0, i, 0), 1, 100 + i);
        Check.both("lay(2, 39, 0), the last place that a row can have", x, x.lay(2, 39, 0), 1, MAX);
    }

    private static void layRefused() {
        Check.about("3: BEYOND");
        for (int i : new int[] {-1, 5, 6, 39, 40, MIN, MAX}) Refused.finds(Refused.BEYOND, Books::some, "lay", 0, i, 4);
        for (int i : new int[] {-1, 0, 1, MIN, MAX}) Refused.finds(Refused.BEYOND, Books::some, "lay", 1, i, 4);
        for (int i : new int[] {-1, 40, 41, MIN, MAX}) Refused.finds(Refused.BEYOND, Books::some, "lay", 2, i, 4);
        Check.about("3: NOTHING, ahead of BEYOND");
        for (int i : new int[] {-1, 0, 40, MIN, MAX}) Refused.finds(Refused.NOTHING, Books::some, "lay", 3, i, 4);
        Refused.finds(Refused.NOTHING, Books::some, "lay", 5, 0, 4);
        Check.about("3: BAD, ahead of NOTHING and BEYOND");
        for (int r : new int[] {-1, 6, MIN, MAX}) {
            Refused.bad(Books::some, "lay", r, 0, 4);
            Refused.bad(Books::some, "lay", r, -1, 4);
            Refused.bad(Books::fresh, "lay", r, 0, 4);
            Refused.bad(Books::full, "lay", r, 40, 4);
        }
    }

    private static void tearTakesAnEmptyRowToo() {
        Check.about("4: A ROW is missing: 1");
        QuarrelBook x = Books.some();
        Check.due("tear(1), a row of 0 ints is there", x.tear(1), 1);
        Check.due("tear(2), a row of 40 ints", x.tear(2), 1);
        Check.due("count(5)", x.count(5), 1);
        Check.finds("lay(2, 0, 0)", x, x.lay(2, 0, 0), Refused.NOTHING);
        QuarrelBook y = Books.full();
        for (int r = 0; r < 6; r++) Check.due("tear(" + r + ")", y.tear(r), 1);
        Check.due("count(5)", y.count(5), 0);
        Check.due("count(6)", y.count(6), 4);
        for (int r = 0; r < 6; r++) Check.finds("tear(" + r + ") again", y, y.tear(r), Refused.NOTHING);
    }

    private static void tearRefused() {
        Check.about("4: BAD; NOTHING");
        for (int r : new int[] {-1, 6, MIN, MAX}) {
            Refused.bad(Books::fresh, "tear", r);
            Refused.bad(Books::some, "tear", r);
            Refused.bad(Books::full, "tear", r);
        }
        for (int r : new int[] {3, 4, 5}) Refused.finds(Refused.NOTHING, Books::some, "tear", r);
    }

    private static void rowIs(String name, QuarrelBook x, int r, int... want) {
        for (int i = 0; i < want.length; i++) {
            Check.both(name + ": place " + i, x, x.lay(r, i, 0), 1, want[i]);
        }
        Check.finds(name + ": its end", x, x.lay(r, want.length, 0), Refused.BEYOND);
    }

    private static void copyOfNoPlaces() {
        Check.about("5: n places of a ROW: 0");
        QuarrelBook x = Books.some();
        long was = x.digest();
        int[][] calls = {{0, 0, 0, 0}, {0, 5, 0, 5}, {1, 0, 1, 0}, {0, 5, 1, 0}, {1, 0, 0, 5}, {2, 40, 2, 40},
            {2, 40, 1, 0}, {0, 3, 2, 17}};
        for (int[] one : calls) {
            String call = Calls.named("copy", one[0], one[1], one[2], one[3], 0);
            Check.due(call, x.copy(one[0], one[1], one[2], one[3], 0), 1);
            Check.due("digest() behind " + call, x.digest(), was);
        }
        Check.due("asked() is not told by copy()", x.asked(), 50);
    }

    private static void copyOfAllPlaces() {
        Check.about("5: n places of a ROW come to those of another one: 40");
        QuarrelBook x = new QuarrelBook();
        x.row(0, 40);
        x.row(5, 40);
        for (int i = 0; i < 40; i++) x.lay(0, i, 1000 - i);
        Check.due("copy(0, 0, 5, 0, 40)", x.copy(0, 0, 5, 0, 40), 1);
        for (int i = 0; i < 40; i++) Check.both("place " + i + " of row 5", x, x.lay(5, i, 0), 1, 1000 - i);
        for (int i = 0; i < 40; i++) Check.both("place " + i + " of row 0 stays", x, x.lay(0, i, 0), 1, 1000 - i);
        Check.due("copy(0, 0, 0, 0, 40), on itself", x.copy(0, 0, 0, 0, 40), 1);
    }

    private static void copyAsIfTakenAhead() {
        Check.about("5: (perhaps itself), as if taken ahead");
        QuarrelBook x = new QuarrelBook();
        Books.layRow(x, 3, 1, 2, 3, 4, 5, 6);
        Check.due("copy(3, 0, 3, 2, 4), upwards", x.copy(3, 0, 3, 2, 4), 1);
        rowIs("upwards", x, 3, 1, 2, 1, 2, 3, 4);
        Books.layRow(x, 3, 1, 2, 3, 4, 5, 6);
        Check.due("copy(3, 2, 3, 0, 4), downwards", x.copy(3, 2, 3, 0, 4), 1);
        rowIs("downwards", x, 3, 3, 4, 5, 6, 5, 6);
        Books.layRow(x, 3, 1, 2, 3, 4, 5, 6);
        Check.due("copy(3, 1, 3, 1, 4), in its place", x.copy(3, 1, 3, 1, 4), 1);
        rowIs("in its place", x, 3, 1, 2, 3, 4, 5, 6);
        Books.layRow(x, 3, 1, 2, 3, 4, 5, 6);
        Books.layRow(x, 4, 11, 12, 13);
        Check.due("copy(3, 5, 4, 0, 1), its last place to the first", x.copy(3, 5, 4, 0, 1), 1);
        Check.due("copy(3, 0, 4, 2, 1), its first place to the last", x.copy(3, 0, 4, 2, 1), 1);
        rowIs("single places", x, 4, 6, 12, 1);
        rowIs("what was taken from stays", x, 3, 1, 2, 3, 4, 5, 6);
    }

    private static void copyBeyond() {
        Check.about("5: BEYOND: not so many there");
        int[][] beyond = {{0, 0, 0, 0, 6}, {0, 1, 2, 0, 5}, {0, 5, 2, 0, 1}, {0, 6, 2, 0, 0}, {0, -1, 2, 0, 1},
            {0, -1, 2, 0, 0}, {2, 0, 0, 0, 6}, {2, 0, 0, 1, 5}, {2, 0, 0, 5, 1}, {2, 0, 0, 6, 0}, {2, 0, 0, -1, 1},
            {2, 0, 0, -1, 0}, {1, 0, 1, 0, 1}, {1, 0, 2, 0, 1}, {2, 0, 1, 0, 1}, {1, 1, 1, 0, 0}, {1, 0, 1, 1, 0},
            {2, 0, 2, 0, 41}, {2, 1, 2, 0, 40}, {2, 0, 2, 1, 40}, {2, 41, 2, 0, 0}, {2, 0, 2, 41, 0}};
        for (int[] one : beyond) Refused.finds(Refused.BEYOND, Books::some, "copy", one);
    }

    private static void copyBeyondWhereSumsWrap() {
        Check.about("5: BEYOND: not so many there, where a place and n wrap around");
        int[][] beyond = {{0, MAX, 0, 0, 1}, {0, 0, 0, MAX, 1}, {0, MAX, 0, MAX, MAX}, {0, 1, 0, 0, MAX},
            {0, 0, 0, 1, MAX}, {0, 0, 0, 0, MAX}, {0, MAX, 0, 0, 0}, {0, 0, 0, MAX, 0}, {0, MIN, 0, 0, 0},
            {0, 0, 0, MIN, 0}, {0, MIN, 0, 0, MAX}, {0, 0, 0, MIN, MAX}, {0, MIN, 0, MIN, 1}, {0, MAX - 2, 0, 0, 4},
            {0, -MAX, 0, 0, MAX}, {0, 0, 0, -MAX, MAX}, {0, MIN + 5, 0, 0, MAX}};
        for (int[] one : beyond) Refused.finds(Refused.BEYOND, Books::some, "copy", one);
    }

    private static void copyRefusedInOrder() {
        Check.about("5: BAD, ahead of SIZE, NOTHING, BEYOND");
        for (int r : new int[] {-1, 6, MIN, MAX}) {
            Refused.bad(Books::some, "copy", r, 0, 0, 0, 1);
            Refused.bad(Books::some, "copy", 0, 0, r, 0, 1);
            Refused.bad(Books::some, "copy", r, 0, r, 0, 0);
            Refused.bad(Books::some, "copy", r, 0, 0, 0, -1);
            Refused.bad(Books::some, "copy", 0, 0, r, 0, -1);
            Refused.bad(Books::some, "copy", r, 0, 3, 0, 1);
            Refused.bad(Books::some, "copy", 3, 0, r, 0, 1);
            Refused.bad(Books::some, "copy", 0, 9, r, 9, 9);
            Refused.bad(Books::some, "copy", r, 9, 0, 9, 9);
        }
        Check.about("5: SIZE: n below 0, ahead of NOTHING and BEYOND");
        for (int n : new int[] {-1, -40, MIN + 1, MIN}) {
            Refused.finds(Refused.SIZE, Books::some, "copy", 0, 0, 0, 0, n);
            Refused.finds(Refused.SIZE, Books::some, "copy", 3, 0, 0, 0, n);
            Refused.finds(Refused.SIZE, Books::some, "copy", 0, 0, 3, 0, n);
            Refused.finds(Refused.SIZE, Books::some, "copy", 0, -1, 0, 6, n);
            Refused.finds(Refused.SIZE, Books::some, "copy", 3, MAX, 3, MIN, n);
        }
        Check.about("5: NOTHING: either, ahead of BEYOND");
        int[][] nothing = {{3, 0, 0, 0, 0}, {0, 0, 3, 0, 0}, {3, 0, 3, 0, 0}, {3, 0, 4, 0, 1}, {0, 9, 5, 0, 1},
            {5, 0, 0, 9, 1}, {3, -1, 0, 0, 1}, {0, 0, 3, MIN, MAX}};
        for (int[] one : nothing) Refused.finds(Refused.NOTHING, Books::some, "copy", one);
    }

    private static void meanIs(String name, int mean, int... places) {
        QuarrelBook x = new QuarrelBook();
        Books.layRow(x, 5, places);
        Check.both("mean(5) of " + name, x, x.mean(5), 1, mean);
    }

    private static int[] forty(int v) {
        int[] places = new int[40];
        Arrays.fill(places, v);
        return places;
    }

    private static void meanIsCutTowardsNought() {
        Check.about("6: The mean of a ROW's ints, cut");
        meanIs("0", 0, 0);
        meanIs("-5", -5, -5);
        meanIs("1 and 2", 1, 1, 2);
        meanIs("-1 and -2", -1, -1, -2);
        meanIs("0 and 1", 0, 0, 1);
        meanIs("0 and -1", 0, 0, -1);
        meanIs("0, 0 and 2", 0, 0, 0, 2);
        meanIs("0, 0 and -2", 0, 0, 0, -2);
        meanIs("0, 0 and -3", -1, 0, 0, -3);
        meanIs("-7 and 0", -3, -7, 0);
        int[] below = forty(0);
        below[39] = 39;
        meanIs("39 by 40", 0, below);
        below[0] = 1;
        meanIs("40 by 40", 1, below);
        below[0] = -78;
        meanIs("-39 by 40", 0, below);
        below[0] = -79;
        meanIs("-40 by 40", -1, below);
    }

    private static void meanOfTheOutermostInts() {
        Check.about("6: The mean of a ROW's ints, where their sum is no int");
        meanIs("MAX", MAX, MAX);
        meanIs("MIN", MIN, MIN);
        meanIs("MAX twice", MAX, MAX, MAX);
        meanIs("MIN twice", MIN, MIN, MIN);
        meanIs("MAX and 1", 1 << 30, MAX, 1);
        meanIs("MIN and -1", -(1 << 30), MIN, -1);
        meanIs("MIN and MAX", 0, MIN, MAX);
        meanIs("MAX forty times", MAX, forty(MAX));
        meanIs("MIN forty times", MIN, forty(MIN));
    }

    private static void meanRefused() {
        Check.about("6: NOUGHT (shared among none)");
        Refused.finds(Refused.NOUGHT, Books::some, "mean", 1);
        Check.about("6: NOTHING");
        for (int r : new int[] {3, 4, 5}) Refused.finds(Refused.NOTHING, Books::some, "mean", r);
        Check.about("6: BAD");
        for (int r : new int[] {-1, 6, MIN, MAX}) {
            Refused.bad(Books::fresh, "mean", r);
            Refused.bad(Books::some, "mean", r);
        }
    }

    private static void textsAreNumbered0To3() {
        Check.about("TEXTS 0 .. 3");
        QuarrelBook x = new QuarrelBook();
        for (int t = 0; t < 4; t++) {
            Check.due("text(" + t + ", 1)", x.text(t, 1), 1);
            Check.due("count(6)", x.count(6), t + 1);
        }
        Check.due("count(5)", x.count(5), 0);
        for (int t : new int[] {-1, 4, 5, -9, MIN, MAX}) {
            Refused.bad(Books::some, "text", t, 0);
            Refused.bad(Books::some, "text", t, 40);
            Refused.bad(Books::full, "text", t, 1);
        }
    }

    private static void textsHave0To40Bytes() {
        Check.about("TEXTS: rows of 0 to 40 bytes");
        QuarrelBook x = new QuarrelBook();
        for (int n = 0; n <= 40; n++) {
            Check.due("text(3, " + n + ")", x.text(3, n), n);
            if (n > 0) Check.due("its last byte", x.put(3, n - 1, 65), 1032);
            Check.finds("put(3, " + n + ", 65)", x, x.put(3, n, 65), Refused.BEYOND);
        }
        Check.due("count(6)", x.count(6), 1);
    }

    private static void aTextAbove40IsBad() {
        Check.about("7: BAD: also n above 40");
        for (int n : new int[] {41, 42, 80, 256, 65536, MAX}) {
            Refused.bad(Books::fresh, "text", 0, n);
            Refused.bad(Books::some, "text", 0, n);
            Refused.bad(Books::some, "text", 3, n);
        }
    }

    private static void aTextBelow0IsSize() {
        Check.about("7: SIZE: below 0");
        for (int n : new int[] {-1, -2, -9, -40, MIN + 1, MIN}) {
            Refused.finds(Refused.SIZE, Books::fresh, "text", 0, n);
            Refused.finds(Refused.SIZE, Books::some, "text", 0, n);
            Refused.finds(Refused.SIZE, Books::some, "text", 3, n);
        }
        Check.about("7: BAD ahead of SIZE");
        for (int n : new int[] {-1, MIN}) {
            for (int t : new int[] {-1, 4, MIN, MAX}) Refused.bad(Books::some, "text", t, n);
        }
    }

    private static void aTextIsThereWithBlanks() {
        Check.about("7: A TEXT is there with n blanks");
        QuarrelBook x = new QuarrelBook();
        x.text(2, 40);
        for (int i = 0; i < 40; i++) Check.due("byte " + i, x.put(2, i, 97), 1032);
        Check.due("text(2, 3), a shorter one", x.text(2, 3), 3);
        for (int i = 0; i < 3; i++) Check.due("byte " + i, x.put(2, i, 97), 1032);
        Check.due("text(2, 40), a longer one again", x.text(2, 40), 40);
        for (int i = 0; i < 40; i++) Check.due("byte " + i, x.put(2, i, 97), 1032);
        Check.due("text(2, 0), an empty one", x.text(2, 0), 0);
        Check.due("count(6): it is there", x.count(6), 1);
    }

    private static void putCutsToAByte() {
        Check.about("8: Byte i of a TEXT is v, cut to a byte: what it was, and 1000 more");
        int[][] cut = {{0, 0}, {127, 127}, {128, -128}, {129, -127}, {255, -1}, {256, 0}, {257, 1}, {-1, -1},
            {-128, -128}, {-129, 127}, {-256, 0}, {-257, -1}, {65536, 0}, {MAX, -1}, {MIN, 0}, {MIN + 127, 127},
            {MIN + 128, -128}};
        QuarrelBook x = new QuarrelBook();
        x.text(0, 2);
        x.put(0, 0, 65);
        int was = 32;
        for (int[] one : cut) {
            Check.due("put(0, 1, " + one[0] + ")", x.put(0, 1, one[0]), was + 1000);
            was = one[1];
        }
        Check.due("put(0, 1, 0) behind them", x.put(0, 1, 0), was + 1000);
        Check.due("put(0, 0, 0), the byte beside it", x.put(0, 0, 0), 1065);
        Check.due("asked() is not told by put()", x.asked(), 0);
    }

    private static void putRefused() {
        Check.about("8: BEYOND");
        for (int i : new int[] {-1, 5, 6, 40, MIN, MAX}) Refused.finds(Refused.BEYOND, Books::some, "put", 0, i, 97);
        for (int i : new int[] {-1, 0, 1, MIN, MAX}) Refused.finds(Refused.BEYOND, Books::some, "put", 1, i, 97);
        for (int i : new int[] {-1, 40, MIN, MAX}) Refused.finds(Refused.BEYOND, Books::full, "put", 3, i, 97);
        Check.about("8: NOTHING, ahead of BEYOND");
        for (int i : new int[] {-1, 0, 40, MIN, MAX}) Refused.finds(Refused.NOTHING, Books::some, "put", 3, i, 97);
        Check.about("8: BAD, ahead of NOTHING and BEYOND");
        for (int t : new int[] {-1, 4, 5, MIN, MAX}) {
            Refused.bad(Books::some, "put", t, 0, 97);
            Refused.bad(Books::some, "put", t, -1, 97);
            Refused.bad(Books::fresh, "put", t, 0, 97);
            Refused.bad(Books::full, "put", t, 40, 97);
        }
    }
}
