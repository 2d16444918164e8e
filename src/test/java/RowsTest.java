/** Promises 1 to 8: a new object, rows, texts. */
public final class RowsTest {
    private static final int NOTHING = 1, BEYOND = 2, NOUGHT = 4, SIZE = 5;

    public static void main(String[] args) {
        newObject();
        row();
        lay();
        tear();
        copy();
        copyRefused();
        mean();
        text();
        put();
        Check.finish();
    }

    private static void newObject() {
        QuarrelBook x = new QuarrelBook();
        for (int what = 0; what <= 6; what++) Check.due("new: count(" + what + ")", x.count(what), 0);
        for (int f = 1; f <= 5; f++) Check.due("new: findings(" + f + ")", x.findings(f), 0);
        Check.due("new: asked()", x.asked(), 0);
        Check.due("new: upper()", x.upper(), 0);
        Check.due("new: lower()", x.lower(), 1);
        Check.due("new: finding()", x.finding(), 0);
        for (int r = 0; r < 6; r++) Check.finds("new: tear(" + r + ")", x, x.tear(r), NOTHING);
        for (int t = 0; t < 4; t++) Check.finds("new: fault(" + t + ")", x, x.fault(t), NOTHING);
    }

    private static void row() {
        QuarrelBook x = new QuarrelBook();
        Check.due("row(0, 0)", x.row(0, 0), 0);
        Check.due("row(5, 40)", x.row(5, 40), 40);
        Check.both("lay(5, 39, 7)", x, x.lay(5, 39, 7), 1, 0);
        Check.due("row(5, 40) again", x.row(5, 40), 40);
        Check.both("lay(5, 39, 8) finds 0 anew", x, x.lay(5, 39, 8), 1, 0);
        Check.due("row(5, 2) shorter", x.row(5, 2), 2);
        Check.finds("lay(5, 2, 1)", x, x.lay(5, 2, 1), BEYOND);
        Check.due("row(-1, 0)", x.row(-1, 0), QuarrelBook.BAD);
        Check.due("row(6, 0)", x.row(6, 0), QuarrelBook.BAD);
        Check.due("row(6, -1)", x.row(6, -1), QuarrelBook.BAD);
        Check.due("row(0, 41)", x.row(0, 41), QuarrelBook.BAD);
        Check.due("row(0, MAX)", x.row(0, Integer.MAX_VALUE), QuarrelBook.BAD);
        Check.finds("row(5, -1)", x, x.row(5, -1), SIZE);
        Check.finds("row(5, MIN)", x, x.row(5, Integer.MIN_VALUE), SIZE);
        Check.both("lay(5, 1, 9): the refused row() changed nothing", x, x.lay(5, 1, 9), 1, 0);
        Check.due("count(5)", x.count(5), 2);
    }

    private static void lay() {
        QuarrelBook x = new QuarrelBook();
        x.row(2, 3);
        Check.both("lay(2, 0, MIN)", x, x.lay(2, 0, Integer.MIN_VALUE), 1, 0);
        Check.both("lay(2, 0, 5)", x, x.lay(2, 0, 5), 1, Integer.MIN_VALUE);
        Check.both("lay(2, 0, 6)", x, x.lay(2, 0, 6), 1, 5);
        Check.both("lay(2, 2, 1)", x, x.lay(2, 2, 1), 1, 0);
        Check.both("lay(2, 0, 6)", x, x.lay(2, 0, 6), 1, 6);
        Check.finds("lay(2, 3, 1)", x, x.lay(2, 3, 1), BEYOND);
        Check.finds("lay(2, -1, 1)", x, x.lay(2, -1, 1), BEYOND);
        Check.finds("lay(3, 0, 1)", x, x.lay(3, 0, 1), NOTHING);
        Check.finds("lay(3, -1, 1)", x, x.lay(3, -1, 1), NOTHING);
        Check.due("lay(-1, 0, 1)", x.lay(-1, 0, 1), QuarrelBook.BAD);
        Check.due("lay(6, 0, 1)", x.lay(6, 0, 1), QuarrelBook.BAD);
        Check.due("asked() stays when refused", x.asked(), 6);
    }

    private static void tear() {
        QuarrelBook x = new QuarrelBook();
        x.row(4, 5);
        Check.due("tear(4)", x.tear(4), 1);
        Check.due("count(5)", x.count(5), 0);
        Check.finds("tear(4) again", x, x.tear(4), NOTHING);
        Check.finds("lay(4, 0, 0)", x, x.lay(4, 0, 0), NOTHING);
        Check.due("tear(6)", x.tear(6), QuarrelBook.BAD);
        Check.due("tear(-1)", x.tear(-1), QuarrelBook.BAD);
        Check.due("row(4, 5)", x.row(4, 5), 5);
    }

    private static QuarrelBook withRow12345() {
        QuarrelBook x = new QuarrelBook();
        x.row(0, 5);
        for (int i = 0; i < 5; i++) x.lay(0, i, i + 1);
        return x;
    }

    private static void rowIs(String name, QuarrelBook x, int r, int... want) {
        for (int i = 0; i < want.length; i++) {
            x.lay(r, i, 0);
            Check.due(name + ": place " + i + " of row " + r, x.asked(), want[i]);
        }
    }

    private static void copy() {
        QuarrelBook up = withRow12345();
        Check.due("copy(0, 0, 0, 1, 4)", up.copy(0, 0, 0, 1, 4), 1);
        rowIs("up in itself", up, 0, 1, 1, 2, 3, 4);
        QuarrelBook down = withRow12345();
        Check.due("copy(0, 1, 0, 0, 4)", down.copy(0, 1, 0, 0, 4), 1);
        rowIs("down in itself", down, 0, 2, 3, 4, 5, 5);
        QuarrelBook x = withRow12345();
        x.row(3, 3);
        x.lay(3, 0, 9);
        Check.due("copy(0, 3, 3, 1, 2)", x.copy(0, 3, 3, 1, 2), 1);
        Check.due("copy(0, 5, 3, 3, 0) at both ends", x.copy(0, 5, 3, 3, 0), 1);
        rowIs("to another", x, 3, 9, 4, 5);
        rowIs("taken from", x, 0, 1, 2, 3, 4, 5);
    }

    private static void copyRefused() {
        QuarrelBook x = withRow12345();
        x.row(3, 3);
        Check.due("copy(6, 0, 0, 0, -1)", x.copy(6, 0, 0, 0, -1), QuarrelBook.BAD);
        Check.due("copy(0, 0, -1, 0, 0)", x.copy(0, 0, -1, 0, 0), QuarrelBook.BAD);
        Check.due("copy(-1, 0, 0, 0, 0)", x.copy(-1, 0, 0, 0, 0), QuarrelBook.BAD);
        Check.due("copy(0, 0, 6, 0, 0)", x.copy(0, 0, 6, 0, 0), QuarrelBook.BAD);
        Check.finds("copy(1, 0, 1, 0, -1): size first", x, x.copy(1, 0, 1, 0, -1), SIZE);
        Check.finds("copy(1, 9, 0, 0, 1): missing first", x, x.copy(1, 9, 0, 0, 1), NOTHING);
        Check.finds("copy(0, 0, 1, 0, 1)", x, x.copy(0, 0, 1, 0, 1), NOTHING);
        Check.finds("copy(0, 2, 3, 0, 4)", x, x.copy(0, 2, 3, 0, 4), BEYOND);
        Check.finds("copy(0, 0, 3, 0, 4)", x, x.copy(0, 0, 3, 0, 4), BEYOND);
        Check.finds("copy(0, 0, 3, 2, 2)", x, x.copy(0, 0, 3, 2, 2), BEYOND);
        Check.finds("copy(0, -1, 3, 0, 1)", x, x.copy(0, -1, 3, 0, 1), BEYOND);
        Check.finds("copy(0, 0, 3, -1, 1)", x, x.copy(0, 0, 3, -1, 1), BEYOND);
        Check.finds("copy(0, 6, 3, 0, 0)", x, x.copy(0, 6, 3, 0, 0), BEYOND);
        int max = Integer.MAX_VALUE;
        Check.finds("copy(0, MAX, 3, 0, MAX)", x, x.copy(0, max, 3, 0, max), BEYOND);
        Check.finds("copy(0, 0, 3, MAX, 1)", x, x.copy(0, 0, 3, max, 1), BEYOND);
        Check.finds("copy(0, MIN, 3, 0, MAX)", x, x.copy(0, Integer.MIN_VALUE, 3, 0, max), BEYOND);
        rowIs("after what was refused", x, 3, 0, 0, 0);
    }

    private static void mean() {
        QuarrelBook x = withRow12345();
        Check.both("mean(0)", x, x.mean(0), 1, 3);
        x.lay(0, 4, 9);
        Check.both("mean(0), 19 by 5", x, x.mean(0), 1, 3);
        x.row(1, 2);
        x.lay(1, 0, -3);
        Check.both("mean(1), -3 by 2", x, x.mean(1), 1, -1);
        x.lay(1, 0, Integer.MAX_VALUE);
        x.lay(1, 1, Integer.MAX_VALUE);
        Check.both("mean(1) of two greatest ints", x, x.mean(1), 1, Integer.MAX_VALUE);
        x.row(4, 40);
        for (int i = 0; i < 40; i++) x.lay(4, i, 100 + i);
        Check.both("mean(4) of forty", x, x.mean(4), 1, 119);
        x.row(2, 0);
        Check.finds("mean(2)", x, x.mean(2), NOUGHT);
        Check.finds("mean(3)", x, x.mean(3), NOTHING);
        Check.due("mean(6)", x.mean(6), QuarrelBook.BAD);
        Check.due("mean(-1)", x.mean(-1), QuarrelBook.BAD);
        Check.due("asked() stays", x.asked(), 119);
    }

    private static void text() {
        QuarrelBook x = new QuarrelBook();
        Check.due("text(0, 0)", x.text(0, 0), 0);
        Check.due("text(3, 40)", x.text(3, 40), 40);
        Check.due("put(3, 39, 1) finds a blank", x.put(3, 39, 1), 1032);
        Check.due("text(3, 40) again", x.text(3, 40), 40);
        Check.due("put(3, 39, 1) finds a blank anew", x.put(3, 39, 1), 1032);
        Check.due("text(4, 0)", x.text(4, 0), QuarrelBook.BAD);
        Check.due("text(-1, -1)", x.text(-1, -1), QuarrelBook.BAD);
        Check.due("text(0, 41)", x.text(0, 41), QuarrelBook.BAD);
        Check.finds("text(3, -1)", x, x.text(3, -1), SIZE);
        Check.due("put(3, 39, 1): the refused text() changed nothing", x.put(3, 39, 1), 1001);
        Check.due("count(6)", x.count(6), 2);
    }

    private static void put() {
        QuarrelBook x = new QuarrelBook();
        x.text(1, 2);
        Check.due("put(1, 0, 200)", x.put(1, 0, 200), 1032);
        Check.due("put(1, 0, -128)", x.put(1, 0, -128), 944);
        Check.due("put(1, 0, 256 + 65)", x.put(1, 0, 256 + 65), 872);
        Check.due("put(1, 0, 127)", x.put(1, 0, 127), 1065);
        Check.due("put(1, 0, 0)", x.put(1, 0, 0), 1127);
        Check.due("put(1, 1, 0)", x.put(1, 1, 0), 1032);
        Check.finds("put(1, 2, 0)", x, x.put(1, 2, 0), BEYOND);
        Check.finds("put(1, -1, 0)", x, x.put(1, -1, 0), BEYOND);
        Check.finds("put(2, -1, 0)", x, x.put(2, -1, 0), NOTHING);
        Check.due("put(4, 0, 0)", x.put(4, 0, 0), QuarrelBook.BAD);
        Check.due("put(-1, 0, 0)", x.put(-1, 0, 0), QuarrelBook.BAD);
        Check.due("asked() is not told by put()", x.asked(), 0);
    }
}
