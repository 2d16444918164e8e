import java.util.HashMap;
import java.util.Map;

/**
 * Each call of the face with every choice of outermost numbers for its arguments, on a new book, one with some of
 * everything, one with nine sayings of one master and a full one, held against the slow twin: what is answered, told
 * aside, found and changed has to be the same. So whichever refusals a call fits, the order decides the same.
 */
public final class EdgeProductsTest {
    // Each call with what its arguments are: a letter of EDGES an argument.
    private static final String[] FACE = {
        "row rn", "lay riv", "tear r", "copy ririn", "mean r", "text tn", "put tiv", "instance T", "master yyh",
        "saying mcyab", "sayings myr", "told sf", "traits c", "life mf", "fault t", "rule t", "answers uT", "fits su",
        "prices ppp", "costs su", "settle m", "second m", "cheap m", "cheapAt mu", "all ", "against s", "nobody ",
        "plain s", "changed m", "parts cc", "met mm", "can B", "reads fsa", "reading s", "slip xox", "runs s",
        "move skd", "moved gf", "mark gk", "follow ", "law fT", "lawsPart ff", "fresh mT", "next ", "asked ",
        "upper ", "lower ", "count f", "finding ", "findings f", "digest "};

    private static final int MIN = Integer.MIN_VALUE, MAX = Integer.MAX_VALUE;
    private static final Map<Character, int[]> EDGES = new HashMap<>();

    private static final String[] BOOKS = {"fresh", "some", "nine", "full"};
    // An object is used for 512 calls at most: a full book takes 94 to write, and each comparison eight.
    private static final int CALLS = 512, TO_BEGIN = 100, TO_COMPARE = 8;

    private QuarrelBook book;
    private NaiveBook twin;
    private int made;
    private final String begun;

    private EdgeProductsTest(String begun) {
        this.begun = begun;
        begin();
    }

    public static void main(String[] args) {
        tellEdges();
        for (String begun : BOOKS) {
            EdgeProductsTest test = new EdgeProductsTest(begun);
            for (String call : FACE) test.callWithAll(call.split(" ", -1));
        }
        Check.finish();
    }

    private static void tellEdges() {
        EDGES.put('r', new int[] {MIN, -1, 0, 1, 2, 3, 5, 6, MAX});
        EDGES.put('t', new int[] {MIN, -1, 0, 1, 2, 3, 4, MAX});
        EDGES.put('n', new int[] {MIN, -1, 0, 1, 5, 6, 40, 41, MAX});
        EDGES.put('i', new int[] {MIN, -1, 0, 1, 4, 5, 39, 40, MAX});
        EDGES.put('v', new int[] {MIN, -129, -128, -1, 0, 127, 128, 255, 256, MAX});
        EDGES.put('T', new int[] {MIN, -9, -1, 0, 1, 3, 30, 31, 32, MAX});
        EDGES.put('y', new int[] {MIN, -1, 0, 9, 10, 30, 80, 81, 99, 100, 150, 151, 999, 1000, MAX});
        EDGES.put('h', new int[] {MIN, -10, -9, -8, -1, 0, 2, 3, 7, 8, MAX});
        EDGES.put('m', new int[] {MIN, -9, -1, 0, 1, 2, 3, 7, 8, MAX});
        EDGES.put('c', new int[] {MIN, -9, -1, 0, 2, 3, 11, 12, MAX});
        EDGES.put('s', new int[] {MIN, -9, -1, 0, 3, 4, 8, 9, 23, 24, MAX});
        EDGES.put('a', new int[] {MIN, -10, -9, -8, -1, 0, 1, 2, MAX});
        EDGES.put('b', new int[] {MIN, -10, -9, -8, -1, 0, 4, 5, MAX});
        EDGES.put('f', new int[] {MIN, -9, -1, 0, 1, 2, 3, 4, 5, 6, 7, MAX});
        EDGES.put('u', new int[] {MIN, -9, -1, 0, 1, 121, 242, 243, 244, MAX});
        EDGES.put('p', new int[] {MIN, -9, -1, 0, 1, 98, 99, 100, MAX});
        EDGES.put('B', new int[] {MIN, -256, -1, 0, 1, 2, 3, 4, 7, 8, 128, 255, 256, MAX});
        EDGES.put('x', new int[] {MIN, -1, 0, 1, 2, 11, 12, 13, MAX});
        EDGES.put('o', new int[] {MIN, -1, 0, 1, 2, 3, 8, 9, 10, MAX});
        EDGES.put('k', new int[] {MIN, -1, 0, 1, 2, 3, 4, 5, 6, 7, MAX});
        EDGES.put('d', new int[] {MIN, -9, -1, 0, 3, 4, 5, 7, 8, 23, 24, 999, 1000, MAX});
        EDGES.put('g', new int[] {MIN, -1, 0, 1, 3, 4, 6, 7, 39, 40, MAX});
    }

    private void begin() {
        book = new QuarrelBook();
        twin = new NaiveBook();
        for (Object x : new Object[] {book, twin}) {
            if (begun.equals("some")) Books.writeSome(x);
            if (begun.equals("nine")) Books.writeNineOfOne(x);
            if (begun.equals("full")) Books.writeFull(x);
        }
        made = TO_BEGIN;
    }

    private void callWithAll(String[] call) {
        int[] args = new int[call[1].length()];
        int choices = 1;
        for (int i = 0; i < args.length; i++) choices *= EDGES.get(call[1].charAt(i)).length;
        for (int choice = 0; choice < choices; choice++) {
            int rest = choice;
            for (int i = 0; i < args.length; i++) {
                int[] edges = EDGES.get(call[1].charAt(i));
                args[i] = edges[rest % edges.length];
                rest /= edges.length;
            }
            callBoth(call[0], args);
        }
    }

    private void callBoth(String name, int[] args) {
        if (made + TO_COMPARE > CALLS) begin();
        made += TO_COMPARE;
        long was = book.digest();
        long got = Calls.call(book, name, args);
        long want = Calls.call(twin, name, args);
        boolean same = got == want && book.asked() == twin.asked() && book.digest() == twin.digest()
            && book.finding() == twin.finding() && book.upper() == twin.upper() && book.lower() == twin.lower();
        String call = same ? "" : begun + ": " + Calls.named(name, args);
        Check.holds(call + " answers and leaves what the twin does: " + got + ", " + want, same);
        // What was changed is not the book any more that the others begin with.
        if (!same || book.digest() != was) begin();
    }
}
