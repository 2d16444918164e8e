/** Books that the tests of boundary cases begin with; the slow twin can begin with the same. */
final class Books {
    private static final int NONE = QuarrelBook.NONE;

    private Books() {
    }

    static QuarrelBook fresh() {
        return new QuarrelBook();
    }

    /**
     * Some of everything, and nothing as in a new book.
     *
     * <p>Row 0 has 5 places, row 1 none, row 2 has 40; 3 to 5 are missing. Text 0 is a rule, text 1 is empty, text 2
     * has a fault; 3 is missing. Three cases: {a}, {a, b}, {}. Three masters: 0 lives from 10 to 80, 1 (taught by 0)
     * from 20 to 90, 2 (taught by 1) in 30 alone and says nothing. Four sayings, two of each of the first two masters.
     * Seven moves, move k of kind k. Each finding was answered once, NOUGHT last. asked() tells 50, the fraction is 5
     * by 9.
     */
    static QuarrelBook some() {
        QuarrelBook x = new QuarrelBook();
        writeSome(x);
        return x;
    }

    /**
     * As much of everything as there is room for: 12 cases, 8 masters, 24 sayings (nine of master 0, nine of 1, six
     * of 2), 40 moves, 6 rows and 4 texts of 40. Master m lives from 10 m to 10 m + 60 and is taught by m - 1.
     */
    static QuarrelBook full() {
        QuarrelBook x = new QuarrelBook();
        writeFull(x);
        return x;
    }

    /** Cases {} and {a}; master 0, who lives from 100 to 150, has nine sayings, master 1 none. */
    static QuarrelBook nineOfOne() {
        QuarrelBook x = new QuarrelBook();
        writeNineOfOne(x);
        return x;
    }

    static void writeSome(Object x) {
        layRow(x, 0, 7, -3, 16, 1, 0);
        Calls.call(x, "row", 1, 0);
        Calls.call(x, "row", 2, 40);
        Calls.call(x, "lay", 2, 39, Integer.MAX_VALUE);
        putText(x, 0, " a!b ");
        Calls.call(x, "text", 1, 0);
        putText(x, 2, "ba");
        for (int traits : new int[] {1, 3, 0}) Calls.call(x, "instance", traits);
        each(x, "master", new int[][] {{10, 80, NONE}, {20, 90, 0}, {30, 30, 1}});
        each(x, "saying", new int[][] {{0, 0, 30, 1, NONE}, {0, 1, 40, 0, 1}, {1, 2, 50, 1, NONE}, {1, 0, 90, 0, 0}});
        each(x, "reads", new int[][] {{0, 0, 0}, {4, 0, 1}, {2, 3, 1}});
        Calls.call(x, "prices", 4, 6, 8);
        each(x, "move", new int[][] {{0, 0, 5}, {0, 1, 1}, {0, 2, 1}, {1, 3, 0}, {1, 4, 4}, {0, 5, 35}, {2, 6, 0}});
        Calls.call(x, "lay", 5, 0, 0);
        Calls.call(x, "lay", 1, 0, 0);
        Calls.call(x, "mark", 0, 1);
        Calls.call(x, "row", 0, -1);
        Calls.call(x, "mean", 1);
        Calls.call(x, "told", 2, 2);
        Calls.call(x, "slip", 2, 3, 1);
    }

    static void writeFull(Object x) {
        for (int traits : new int[] {1, 3, 0, 31, 5, 10, 21, 16, 8, 4, 2, 30}) Calls.call(x, "instance", traits);
        for (int m = 0; m < 8; m++) Calls.call(x, "master", 10 * m, 10 * m + 60, m == 0 ? NONE : m - 1);
        for (int s = 0; s < 24; s++) {
            int answer = s * s % 3 == 1 ? 1 : 0;
            Calls.call(x, "saying", s / 9, s % 12, 20 + s, answer, s % 4 == 3 ? s % 5 : NONE);
        }
        for (int m = 0; m < 20; m++) {
            Calls.call(x, "move", m, 1, 23);
            Calls.call(x, "move", m, 2 + m % 5, (2 * m + 1) % 3);
        }
        for (int r = 0; r < 6; r++) Calls.call(x, "row", r, 40);
        for (int t = 0; t < 4; t++) Calls.call(x, "text", t, 40);
    }

    static void writeNineOfOne(Object x) {
        Calls.call(x, "instance", 0);
        Calls.call(x, "instance", 1);
        Calls.call(x, "master", 100, 150, NONE);
        Calls.call(x, "master", 100, 150, NONE);
        for (int s = 0; s < 9; s++) Calls.call(x, "saying", 0, s % 2, 100 + s, s % 2, NONE);
    }

    static void layRow(Object x, int r, int... places) {
        Calls.call(x, "row", r, places.length);
        for (int i = 0; i < places.length; i++) Calls.call(x, "lay", r, i, places[i]);
    }

    static void putText(Object x, int t, String signs) {
        Calls.call(x, "text", t, signs.length());
        for (int i = 0; i < signs.length(); i++) Calls.call(x, "put", t, i, signs.charAt(i));
    }

    private static void each(Object x, String name, int[][] calls) {
        for (int[] args : calls) Calls.call(x, name, args);
    }
}
