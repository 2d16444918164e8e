import java.util.ArrayList;
import java.util.List;
import java.util.function.Supplier;

/** A call that is refused: what it answers, and that it changes nothing but finding(), findings(). */
final class Refused {
    static final int NOTHING = 1, BEYOND = 2, UNLIKE = 3, NOUGHT = 4, SIZE = 5;
    private static final int NO_FINDING = 0;

    private Refused() {
    }

    static void bad(Supplier<QuarrelBook> begun, String name, int... args) {
        refused(begun, QuarrelBook.BAD, NO_FINDING, name, args);
    }

    static void full(Supplier<QuarrelBook> begun, String name, int... args) {
        refused(begun, QuarrelBook.FULL, NO_FINDING, name, args);
    }

    static void state(Supplier<QuarrelBook> begun, String name, int... args) {
        refused(begun, QuarrelBook.STATE, NO_FINDING, name, args);
    }

    static void finds(int finding, Supplier<QuarrelBook> begun, String name, int... args) {
        refused(begun, QuarrelBook.FINDING, finding, name, args);
    }

    /** NONE is no refusal, but where a call answers it asked() has to stay, and all else too. */
    static void none(Supplier<QuarrelBook> begun, String name, int... args) {
        refused(begun, QuarrelBook.NONE, NO_FINDING, name, args);
    }

    private static void refused(Supplier<QuarrelBook> begun, int answer, int finding, String name, int... args) {
        QuarrelBook x = begun.get();
        QuarrelBook untouched = begun.get();
        String call = Calls.named(name, args);
        Check.due(call, Calls.call(x, name, args), answer);
        Check.due(call + ", then finding()", x.finding(), finding == NO_FINDING ? untouched.finding() : finding);
        for (int f = NOTHING; f <= SIZE; f++) {
            int more = f == finding ? 1 : 0;
            Check.due(call + ", then findings(" + f + ")", x.findings(f), untouched.findings(f) + more);
        }
        Check.holds(call + " changes nothing", allTold(x).equals(allTold(untouched)));
    }

    /** All that a book tells, but findings; what calls leave as they found it is asked ahead of what they change. */
    private static List<Long> allTold(QuarrelBook x) {
        List<Long> told = new ArrayList<>(List.of((long) x.asked(), x.upper(), x.lower(), x.digest()));
        for (int m = 0; m < x.count(1); m++) {
            for (String name : List.of("settle", "second", "cheap", "changed")) ask(x, told, name, m);
            ask(x, told, "fresh", m, 5);
        }
        for (int s = 0; s < x.count(2); s++) {
            for (String name : List.of("against", "plain", "reading", "runs")) ask(x, told, name, s);
        }
        for (String name : List.of("all", "nobody", "follow", "next")) ask(x, told, name);
        for (int by = 0; by < 3; by++) ask(x, told, "law", by, 3);
        told.add(x.digest());
        return told;
    }

    private static void ask(QuarrelBook x, List<Long> told, String name, int... args) {
        told.add(Calls.call(x, name, args));
        told.add((long) x.asked());
    }
}
