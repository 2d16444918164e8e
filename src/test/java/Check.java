/** Counts answers that are not as due; a test's main ends by finish(). */
final class Check {
    private static int made = 0;
    private static int wrong = 0;
    private static String sentence = "";

    private Check() {
    }

    /** The sentence of the document that the checks behind this are about: told with each that is wrong. */
    static void about(String ofTheDocument) {
        sentence = "[" + ofTheDocument + "] ";
    }

    static void due(String call, long got, long want) {
        made++;
        if (got == want) return;
        wrong++;
        System.out.println(sentence + call + " answered " + got + ", due is " + want);
    }

    static void holds(String claim, boolean is) {
        made++;
        if (is) return;
        wrong++;
        System.out.println(sentence + "does not hold: " + claim);
    }

    /** A call that tells something aside: its answer, then asked(). */
    static void both(String call, QuarrelBook book, long got, long want, long wantAside) {
        due(call, got, want);
        due("asked() behind " + call, book.asked(), wantAside);
    }

    /** A call that is refused by a FINDING. */
    static void finds(String call, QuarrelBook book, long got, int finding) {
        due(call, got, QuarrelBook.FINDING);
        due("finding() behind " + call, book.finding(), finding);
    }

    static void finish() {
        System.out.println(made + " checks, " + wrong + " wrong");
        if (wrong != 0) System.exit(1);
    }
}
