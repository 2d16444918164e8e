import java.util.Arrays;

/**
 * Against whom does he say it: masters, cases and sayings, the rules that fit them at the least price, what
 * follows from those rules for sayings, moves of a page, law and cases that nobody had.
 *
 * <p>No call throws: what can't be done is refused by a number. All room is made by the constructor.
 */
public final class QuarrelBook {
    public static final int BAD = -1, FULL = -2, FINDING = -3, STATE = -4, NONE = -9;

    private static final int NOTHING = 1, BEYOND = 2, UNLIKE = 3, NOUGHT = 4, SIZE = 5;

    private static final int MOST_ROWS = 6, MOST_TEXTS = 4, MOST_PLACES = 40, MISSING = -1;
    private static final int MOST_CASES = 12, MOST_MASTERS = 8, MOST_SAYINGS = 24, MOST_OF_ONE = 9;
    private static final int MOST_COPIES = 5, MOST_MOVES = 40;
    private static final int YEARS = 1000, GROWN = 15, ONE_LIFE = 70, HIGHEST_PRICE = 99;

    private static final int TRAITS = 5, SETS = 32;
    private static final int RULES = 244, ALWAYS = 0, NEVER = 243;
    private static final int[] POWERS_OF_3 = {1, 3, 9, 27, 81};
    // Bit n of the number of a trait: the set n has that trait.
    private static final int[] SETS_WITH = {0xAAAAAAAA, 0xCCCCCCCC, 0xF0F0F0F0, 0xFF00FF00, 0xFFFF0000};

    // A saying's strain by a rule. The bits are such that of two strains the lesser one is the one AND the other,
    // and those of nine sayings lie side by side in one int.
    private static final int FITTING = 0, AMENDABLE = 1, STUCK = 1 | 1 << MOST_OF_ONE;
    private static final int STRAINED = (1 << MOST_OF_ONE) - 1;

    private static final int NOTE = 0, OBJECTION = 1, PARTED = 2, HELD = 3, AMENDED = 4, TWO = 5, LEFT = 6;
    private static final int KINDS = 7;

    private static final int BY_MORE = 0, BY_LATER = 1;
    private static final int LAWS = 3;

    private static final int SAYING_FIGURES = 5, LIFE_FIGURES = 5, MOVE_FIGURES = 3, AMOUNTS = 7;

    private final Row[] rows = new Row[MOST_ROWS];
    private final Text[] texts = new Text[MOST_TEXTS];
    private final Book book = new Book();
    private final Page page = new Page(book);
    private final Court court = new Court(book);
    private final int[] tallies = new int[SIZE + 1];
    private int latest = 0;
    private int aside = 0;
    private long over = 0;
    private long under = 1;

    public QuarrelBook() {
        for (int r = 0; r < MOST_ROWS; r++) rows[r] = new Row();
        for (int t = 0; t < MOST_TEXTS; t++) texts[t] = new Text();
    }

    // ---- 1 rows, texts, cases, masters, sayings

    public int row(int r, int n) {
        if (!within(r, MOST_ROWS) || n > MOST_PLACES) return BAD;
        if (n < 0) return refuse(SIZE);
        rows[r].renew(n);
        return n;
    }

    public int lay(int r, int i, int v) {
        if (!within(r, MOST_ROWS)) return BAD;
        Row row = rows[r];
        if (row.size == MISSING) return refuse(NOTHING);
        if (!within(i, row.size)) return refuse(BEYOND);
        int was = row.places[i];
        row.places[i] = v;
        return tell(was, 1);
    }

    public int tear(int r) {
        if (!within(r, MOST_ROWS)) return BAD;
        if (rows[r].size == MISSING) return refuse(NOTHING);
        rows[r].size = MISSING;
        return 1;
    }

    public int copy(int r, int i, int to, int j, int n) {
        if (!within(r, MOST_ROWS) || !within(to, MOST_ROWS)) return BAD;
        if (n < 0) return refuse(SIZE);
        Row from = rows[r];
        Row into = rows[to];
        if (from.size == MISSING || into.size == MISSING) return refuse(NOTHING);
        if (!from.hasPlaces(i, n) || !into.hasPlaces(j, n)) return refuse(BEYOND);
        System.arraycopy(from.places, i, into.places, j, n);
        return 1;
    }

    public int mean(int r) {
        if (!within(r, MOST_ROWS)) return BAD;
        Row row = rows[r];
        if (row.size == MISSING) return refuse(NOTHING);
        if (row.size == 0) return refuse(NOUGHT);
        return tell((int) (row.sum() / row.size), 1);
    }

    public int text(int t, int n) {
        if (!within(t, MOST_TEXTS) || n > MOST_PLACES) return BAD;
        if (n < 0) return refuse(SIZE);
        texts[t].renew(n);
        return n;
    }

    public int put(int t, int i, int v) {
        if (!within(t, MOST_TEXTS)) return BAD;
        Text text = texts[t];
        if (text.size == MISSING) return refuse(NOTHING);
        if (!within(i, text.size)) return refuse(BEYOND);
        int was = text.bytes[i];
        text.bytes[i] = (byte) v;
        return was + 1000;
    }

    public int instance(int traits) {
        if (!within(traits, SETS)) return BAD;
        if (book.manyCases == MOST_CASES) return FULL;
        return book.addCase(traits);
    }

    public int master(int born, int dies, int teacher) {
        if (!within(born, YEARS) || !within(dies, YEARS) || dies < born) return BAD;
        if (teacher != NONE && !book.hasMaster(teacher)) return BAD;
        if (book.manyMasters == MOST_MASTERS) return FULL;
        return book.addMaster(born, dies, teacher);
    }

    public int saying(int master, int instance, int year, int answer, int because) {
        if (!book.hasYear(master, year) || !book.hasCase(instance)) return BAD;
        if (!within(answer, 2) || because != NONE && !within(because, TRAITS)) return BAD;
        if (!book.hasRoom(master, 1)) return FULL;
        return book.addSaying(master, instance, year, answer, because);
    }

    public int sayings(int master, int year, int r) {
        if (!book.hasYear(master, year) || !within(r, MOST_ROWS)) return BAD;
        Row row = rows[r];
        if (row.size == MISSING) return refuse(NOTHING);
        for (int i = 0; i < row.size; i++) {
            int v = row.places[i];
            if (v != (byte) v || !book.hasCase(v & 15)) return refuse(UNLIKE);
        }
        if (!book.hasRoom(master, row.size)) return FULL;
        for (int i = 0; i < row.size; i++) {
            int v = row.places[i];
            book.addSaying(master, v & 15, year, v >> 4 & 1, NONE);
        }
        return row.size;
    }

    public int told(int s, int what) {
        if (!book.hasSaying(s) || !within(what, SAYING_FIGURES)) return BAD;
        return tell(book.sayings[s].figure(what), 1);
    }

    public int traits(int c) {
        return book.hasCase(c) ? book.cases[c] : BAD;
    }

    public int life(int m, int what) {
        if (!book.hasMaster(m) || !within(what, LIFE_FIGURES)) return BAD;
        return tell(book.lifeFigure(m, what), 1);
    }

    // ---- 2 rules, settled ones

    public int fault(int t) {
        if (!within(t, MOST_TEXTS)) return BAD;
        if (texts[t].size == MISSING) return refuse(NOTHING);
        return texts[t].readRule();
    }

    public int rule(int t) {
        if (!within(t, MOST_TEXTS)) return BAD;
        Text text = texts[t];
        if (text.size == MISSING) return refuse(NOTHING);
        return text.readRule() == NONE ? text.read : STATE;
    }

    public int answers(int rule, int traits) {
        if (!within(rule, RULES) || !within(traits, SETS)) return BAD;
        return book.rules.verdict(rule, traits);
    }

    public int fits(int s, int rule) {
        if (!book.hasSaying(s) || !within(rule, RULES)) return BAD;
        return book.strainOf(s, rule) == FITTING ? 1 : 0;
    }

    public int prices(int amended, int standing, int two) {
        if (!isPrice(amended) || !isPrice(standing) || !isPrice(two)) return BAD;
        book.reprice(amended, standing, two);
        return 1;
    }

    public int costs(int s, int rule) {
        if (!book.hasSaying(s) || !within(rule, RULES)) return BAD;
        return book.bench.sumOf(book.strainOf(s, rule));
    }

    public int settle(int m) {
        if (!book.hasMaster(m)) return BAD;
        Mind mind = book.settled()[m].mind;
        return tell(mind.lesser, mind.sum);
    }

    public int second(int m) {
        return book.hasMaster(m) ? book.settled()[m].mind.greater : BAD;
    }

    public int cheap(int m) {
        if (!book.hasMaster(m)) return BAD;
        Mind mind = book.settled()[m].mind;
        return tell(mind.lastCheap(), mind.manyCheap);
    }

    public int cheapAt(int m, int i) {
        if (!book.hasMaster(m) || i < 0) return BAD;
        Mind mind = book.settled()[m].mind;
        return i < mind.manyCheap ? mind.cheapRules[i] : NONE;
    }

    public int all() {
        Master[] masters = book.settled();
        int sum = 0;
        for (int m = 0; m < book.manyMasters; m++) sum += masters[m].mind.sum;
        return sum;
    }

    public int against(int s) {
        return book.hasSaying(s) ? book.opponents(s, book.settled()) : BAD;
    }

    public int nobody() {
        Master[] masters = book.settled();
        int first = NONE;
        int many = 0;
        for (int s = 0; s < book.manySayings; s++) {
            if (book.opponents(s, masters) != 0) continue;
            if (many == 0) first = s;
            many++;
        }
        return tell(first, many);
    }

    public int plain(int s) {
        if (!book.hasSaying(s)) return BAD;
        return book.knownToAll(book.caseTraits(s), book.settled()) ? 1 : 0;
    }

    public int changed(int m) {
        if (!book.hasMaster(m)) return BAD;
        int year = book.changeYear(m);
        return tell(book.bench.gain, year);
    }

    public int parts(int c, int other) {
        if (!book.hasCase(c) || !book.hasCase(other)) return BAD;
        int parting = book.cases[c] ^ book.cases[other];
        return tell(firstTrait(parting), Integer.bitCount(parting));
    }

    // ---- 3 years, copies, moves

    public int met(int m, int other) {
        if (!book.hasMaster(m) || !book.hasMaster(other)) return BAD;
        Master one = book.masters[m];
        Master two = book.masters[other];
        int from = Math.max(one.born, two.born) + GROWN;
        int until = Math.min(one.dies, two.dies);
        return Math.max(0, until - from + 1);
    }

    public int can(int masters) {
        if (masters <= 0 || masters >= 1 << book.manyMasters) return BAD;
        int apart = book.yearsApart(masters);
        return tell(apart, apart <= ONE_LIFE ? 1 : 0);
    }

    public int reads(int copy, int s, int answer) {
        if (!within(copy, MOST_COPIES) || !book.hasSaying(s)) return BAD;
        if (answer != NONE && !within(answer, 2)) return BAD;
        int[] copies = book.sayings[s].copies;
        int was = copies[copy];
        copies[copy] = answer;
        return was;
    }

    public int reading(int s) {
        if (!book.hasSaying(s)) return BAD;
        Saying saying = book.sayings[s];
        int owed = saying.copiesReading(1);
        int not = saying.copiesReading(0);
        return tell(owed + not, owed == not ? saying.answer : owed > not ? 1 : 0);
    }

    public int slip(int n, int many, int k) {
        if (n < 1 || n > 12 || many < 2 || many > 9 || k < 0 || k > n) return BAD;
        long ways = 1;
        long rights = 1;
        long wrong = 0;
        for (int i = n; i >= k; i--) {
            wrong += ways * rights;
            ways = ways * i / (n - i + 1);
            rights *= many - 1;
        }
        long whole = 1;
        for (int i = 0; i < n; i++) whole *= many;
        tellFraction(wrong, whole);
        return 1;
    }

    public int runs(int s) {
        if (!book.hasSaying(s)) return BAD;
        Saying saying = book.sayings[s];
        int asSaid = book.settled()[saying.master].mind.sum;
        int otherwise = book.sumIfOtherwise(s);
        if (asSaid == otherwise) return tell(0, 2);
        return tell(Math.abs(asSaid - otherwise), asSaid < otherwise ? saying.answer : 1 - saying.answer);
    }

    public int move(int s, int kind, int v) {
        if (!book.hasSaying(s) || !within(kind, KINDS) || !page.takes(s, kind, v)) return BAD;
        if (page.many == MOST_MOVES) return FULL;
        return page.addMove(s, kind, v);
    }

    public int moved(int m, int what) {
        if (!within(m, page.many) || !within(what, MOVE_FIGURES)) return BAD;
        return tell(page.moves[m].figure(what), 1);
    }

    public int mark(int m, int kind) {
        if (!within(m, page.many) || !within(kind, KINDS) || kind == NOTE) return BAD;
        if (page.moves[m].kind != kind) return refuse(UNLIKE);
        return page.markOf(page.moves[m], book.settled());
    }

    public int follow() {
        page.readThrough(book.settled());
        return tell(page.idle, page.open);
    }

    // ---- 4 law, fresh cases

    public int law(int by, int traits) {
        if (!within(by, LAWS) || !within(traits, SETS)) return BAD;
        int ruling = court.ruling(by, traits, book.settled());
        return ruling == NONE ? NONE : tell(court.ground, ruling);
    }

    public int lawsPart(int one, int other) {
        if (!within(one, LAWS) || !within(other, LAWS)) return BAD;
        Master[] masters = book.settled();
        int many = 0;
        for (int set = 0; set < SETS; set++) {
            if (court.ruling(one, set, masters) != court.ruling(other, set, masters)) many++;
        }
        return many;
    }

    public int fresh(int m, int traits) {
        if (!book.hasMaster(m) || !within(traits, SETS)) return BAD;
        return book.settled()[m].mind.wouldSay(traits);
    }

    public int next() {
        if (book.manySayings == 0) return NONE;
        Master[] masters = book.settled();
        int best = 0;
        int most = -1;
        for (int set = 0; set < SETS; set++) {
            int unsure = book.manyUnsure(set, masters);
            if (unsure > most) {
                most = unsure;
                best = set;
            }
        }
        return tell(most, best);
    }

    // ---- 5 what is told

    public int asked() {
        return aside;
    }

    public long upper() {
        return over;
    }

    public long lower() {
        return under;
    }

    public int count(int what) {
        return within(what, AMOUNTS) ? amount(what) : BAD;
    }

    public int finding() {
        return latest;
    }

    public int findings(int f) {
        return f >= NOTHING && f <= SIZE ? tallies[f] : BAD;
    }

    public long digest() {
        long h = 17;
        for (int what = 0; what < AMOUNTS; what++) h = 31 * h + amount(what);
        h = book.digestFrom(h);
        h = page.digestFrom(h);
        for (int r = 0; r < MOST_ROWS; r++) h = rows[r].digestFrom(h);
        for (int t = 0; t < MOST_TEXTS; t++) h = texts[t].digestFrom(h);
        return h;
    }

    // ---- helpers of the face

    private static boolean within(int v, int many) {
        return v >= 0 && v < many;
    }

    private static boolean isPrice(int v) {
        return v >= 0 && v <= HIGHEST_PRICE;
    }

    private static int firstTrait(int traits) {
        for (int t = 0; t < TRAITS; t++) {
            if ((traits >>> t & 1) == 1) return t;
        }
        return NONE;
    }

    private int refuse(int found) {
        latest = found;
        tallies[found]++;
        return FINDING;
    }

    private int tell(int toldAside, int answer) {
        aside = toldAside;
        return answer;
    }

    private void tellFraction(long top, long bottom) {
        long a = bottom;
        long b = top;
        // Two hundred steps are far more than Euclid's rule needs for two longs.
        for (int step = 0; step < 200 && b != 0; step++) {
            long rest = a % b;
            a = b;
            b = rest;
        }
        if (a == 0) return;
        over = top / a;
        under = bottom / a;
    }

    private int amount(int what) {
        switch (what) {
            case 0: return book.manyCases;
            case 1: return book.manyMasters;
            case 2: return book.manySayings;
            case 3: return page.many;
            case 4: return page.objections();
            case 5: return rowsThere();
            default: return textsThere();
        }
    }

    private int rowsThere() {
        int many = 0;
        for (int r = 0; r < MOST_ROWS; r++) {
            if (rows[r].size != MISSING) many++;
        }
        return many;
    }

    private int textsThere() {
        int many = 0;
        for (int t = 0; t < MOST_TEXTS; t++) {
            if (texts[t].size != MISSING) many++;
        }
        return many;
    }

    /** A row of ints, or a missing one. */
    private static final class Row {
        final int[] places = new int[MOST_PLACES];
        int size = MISSING;

        void renew(int n) {
            Arrays.fill(places, 0);
            size = n;
        }

        boolean hasPlaces(int from, int n) {
            return from >= 0 && from <= size - n;
        }

        long sum() {
            long sum = 0;
            for (int i = 0; i < size; i++) sum += places[i];
            return sum;
        }

        long digestFrom(long start) {
            long h = 31 * start + size;
            for (int i = 0; i < size; i++) h = 31 * h + places[i];
            return h;
        }
    }

    /** A text of bytes, or a missing one; it can be read as a rule. */
    private static final class Text {
        private static final int BLANK = 32, NOT = 33, ZERO = 48, ONE = 49, FIRST_LETTER = 97;

        final byte[] bytes = new byte[MOST_PLACES];
        int size = MISSING;
        int read = ALWAYS;
        private int place = 0;

        void renew(int n) {
            Arrays.fill(bytes, (byte) BLANK);
            size = n;
        }

        /** NONE, with the rule in read; or the place of the fault. */
        int readRule() {
            place = 0;
            read = ALWAYS;
            skipBlanks();
            int sign = signHere();
            if (sign == ZERO || sign == ONE) {
                read = sign == ZERO ? NEVER : ALWAYS;
                place++;
            } else if (!readLetters()) {
                return place;
            }
            skipBlanks();
            return place < size ? place : NONE;
        }

        private boolean readLetters() {
            int last = -1;
            do {
                int figure = 1;
                if (signHere() == NOT) {
                    figure = 2;
                    place++;
                }
                int trait = signHere() - FIRST_LETTER;
                if (trait <= last || trait >= TRAITS) return false;
                read += figure * POWERS_OF_3[trait];
                last = trait;
                place++;
            } while (place < size && signHere() != BLANK);
            return true;
        }

        private void skipBlanks() {
            while (place < size && bytes[place] == BLANK) place++;
        }

        /** 0, which no rule has, behind the end. */
        private int signHere() {
            return place < size ? bytes[place] : 0;
        }

        long digestFrom(long start) {
            long h = 31 * start + size;
            for (int i = 0; i < size; i++) h = 31 * h + bytes[i];
            return h;
        }
    }

    /** What each rule owes and looks at. */
    private static final class Rules {
        // Bit n: the set n of traits is owed.
        final int[] owed = new int[RULES];
        // Bit t: the trait t is looked at.
        final int[] looked = new int[RULES];

        Rules() {
            for (int rule = 0; rule < NEVER; rule++) {
                owed[rule] = -1;
                for (int t = 0; t < TRAITS; t++) {
                    int figure = rule / POWERS_OF_3[t] % 3;
                    if (figure == 0) continue;
                    owed[rule] &= figure == 1 ? SETS_WITH[t] : ~SETS_WITH[t];
                    looked[rule] |= 1 << t;
                }
            }
        }

        int verdict(int rule, int traits) {
            return owed[rule] >>> traits & 1;
        }

        boolean looksAt(int rule, int because) {
            return because == NONE || (looked[rule] >>> because & 1) == 1;
        }

        boolean fitting(int rule, int traits, int answer, int because) {
            return verdict(rule, traits) == answer && looksAt(rule, because);
        }

        int strain(int rule, int traits, int answer, int because) {
            // One trait more or less changes nothing about what the rule looks at.
            if (!looksAt(rule, because)) return STUCK;
            if (verdict(rule, traits) == answer) return FITTING;
            for (int t = 0; t < TRAITS; t++) {
                if (verdict(rule, traits ^ 1 << t) == answer) return AMENDABLE;
            }
            return STUCK;
        }
    }

    private static final class Saying {
        int master = 0;
        int instance = 0;
        int year = 0;
        int answer = 0;
        int because = NONE;
        final int[] copies = new int[MOST_COPIES];

        Saying() {
            Arrays.fill(copies, NONE);
        }

        int figure(int what) {
            switch (what) {
                case 0: return master;
                case 1: return instance;
                case 2: return year;
                case 3: return answer;
                default: return because;
            }
        }

        int copiesReading(int wanted) {
            int many = 0;
            for (int c = 0; c < MOST_COPIES; c++) {
                if (copies[c] == wanted) many++;
            }
            return many;
        }
    }

    private static final class Master {
        int born = 0;
        int dies = 0;
        int teacher = NONE;
        // Bits: his teacher, that one's teacher and so on.
        int forebears = 0;
        final int[] own = new int[MOST_OF_ONE];
        int manyOwn = 0;
        final Mind mind = new Mind();

        boolean hasSpoken() {
            return manyOwn > 0;
        }
    }

    /** What a master is settled by, and all rules that are cheap of him; kept until a saying or a price changes. */
    private static final class Mind {
        boolean known = false;
        int sum = 0;
        int lesser = 0;
        int greater = NONE;
        final int[] cheapRules = new int[RULES];
        int manyCheap = 0;
        // Bits: sets of traits that some cheap rule owes, and that some does not owe.
        private int maybeOwed = 0;
        private int maybeNot = 0;

        void learn(Bench bench, Rules rules) {
            sum = bench.sum;
            lesser = bench.lesser;
            greater = bench.greater;
            manyCheap = 0;
            maybeOwed = 0;
            maybeNot = 0;
            for (int rule = 0; rule < RULES; rule++) {
                if (bench.sums[rule] != bench.least) continue;
                cheapRules[manyCheap] = rule;
                manyCheap++;
                maybeOwed |= rules.owed[rule];
                maybeNot |= ~rules.owed[rule];
            }
            known = true;
        }

        int lastCheap() {
            return manyCheap > 0 ? cheapRules[manyCheap - 1] : NONE;
        }

        boolean mayOwe(int traits) {
            return (maybeOwed >>> traits & 1) == 1;
        }

        boolean mayNotOwe(int traits) {
            return (maybeNot >>> traits & 1) == 1;
        }

        /** 1 or 0; 2: both may be. */
        int wouldSay(int traits) {
            if (!mayOwe(traits)) return 0;
            return mayNotOwe(traits) ? 2 : 1;
        }
    }

    /** The prices, and where the sayings of one master are weighed by all rules. */
    private static final class Bench {
        int amended = 3;
        int standing = 5;
        int two = 7;
        final int[] sums = new int[RULES];
        int least = 0;
        int sum = 0;
        int lesser = 0;
        int greater = NONE;
        int gain = 0;
        private final Rules rules;
        private final int[] strains = new int[RULES];
        private final int[] candidates = new int[RULES];

        Bench(Rules rules) {
            this.rules = rules;
        }

        /** What strains, of one saying or of nine side by side, cost. */
        int sumOf(int together) {
            int mended = Math.min(amended, standing);
            int strained = Integer.bitCount(together & STRAINED);
            int stuck = Integer.bitCount(together >>> MOST_OF_ONE);
            return mended * strained + (standing - mended) * stuck;
        }

        /** Weighs by each rule alone. */
        void weigh(Master master, Saying[] sayings, int[] cases) {
            Arrays.fill(strains, 0);
            for (int i = 0; i < master.manyOwn; i++) {
                Saying saying = sayings[master.own[i]];
                int traits = cases[saying.instance];
                for (int rule = 0; rule < RULES; rule++) {
                    strains[rule] |= rules.strain(rule, traits, saying.answer, saying.because) << i;
                }
            }
            for (int rule = 0; rule < RULES; rule++) {
                sums[rule] = sumOf(strains[rule]);
                if (rule == 0 || sums[rule] < least) {
                    least = sums[rule];
                    lesser = rule;
                }
            }
            sum = least;
            greater = NONE;
        }

        /** Behind weigh(): takes two rules, if they cost less than one. */
        void takeTwoRules() {
            if (two >= least) return;
            int many = gatherCandidates();
            for (int a = 0; a < many; a++) {
                for (int b = a + 1; b < many; b++) {
                    int both = strains[candidates[a]] & strains[candidates[b]];
                    int cost = two + sumOf(both);
                    if (cost >= sum) continue;
                    sum = cost;
                    lesser = candidates[a];
                    greater = candidates[b];
                }
            }
        }

        /**
         * A rule that strains no saying less than some earlier rule does is left out: with the earlier one in its
         * place two rules cost no more and come first; and both of them together cost no less than the earlier
         * one alone.
         */
        private int gatherCandidates() {
            int many = 0;
            for (int rule = 0; rule < RULES; rule++) {
                boolean needless = false;
                for (int a = 0; a < many && !needless; a++) {
                    int earlier = strains[candidates[a]];
                    needless = (earlier & strains[rule]) == earlier;
                }
                if (needless) continue;
                candidates[many] = rule;
                many++;
            }
            return many;
        }

        /**
         * The year from which on another rule costs least, for the master weighed last; gain tells how much less.
         * What lies ahead of a year changes only behind the year of a saying, so no other years are tried.
         */
        int firstChange(Master master, Saying[] sayings) {
            int best = least;
            int first = master.born;
            for (int i = 0; i < master.manyOwn; i++) {
                int year = sayings[master.own[i]].year + 1;
                if (year > master.dies) continue;
                int cost = costParted(sayingsAhead(year, master, sayings));
                if (cost < best || cost == best && year < first) {
                    best = cost;
                    first = year;
                }
            }
            gain = least - best;
            return first;
        }

        private int sayingsAhead(int year, Master master, Saying[] sayings) {
            int ahead = 0;
            for (int i = 0; i < master.manyOwn; i++) {
                if (sayings[master.own[i]].year < year) ahead |= STUCK << i;
            }
            return ahead;
        }

        private int costParted(int ahead) {
            int leastAhead = sumOf(strains[0] & ahead);
            int leastFrom = sumOf(strains[0] & ~ahead);
            for (int rule = 1; rule < RULES; rule++) {
                leastAhead = Math.min(leastAhead, sumOf(strains[rule] & ahead));
                leastFrom = Math.min(leastFrom, sumOf(strains[rule] & ~ahead));
            }
            return leastAhead + leastFrom;
        }
    }

    /** The cases, masters, sayings and prices. Callers ask has..() ahead of using a number. */
    private static final class Book {
        final Rules rules = new Rules();
        final Bench bench = new Bench(rules);
        final int[] cases = new int[MOST_CASES];
        int manyCases = 0;
        final Master[] masters = new Master[MOST_MASTERS];
        int manyMasters = 0;
        final Saying[] sayings = new Saying[MOST_SAYINGS];
        int manySayings = 0;

        Book() {
            for (int m = 0; m < MOST_MASTERS; m++) masters[m] = new Master();
            for (int s = 0; s < MOST_SAYINGS; s++) sayings[s] = new Saying();
        }

        boolean hasCase(int c) {
            return within(c, manyCases);
        }

        boolean hasMaster(int m) {
            return within(m, manyMasters);
        }

        boolean hasSaying(int s) {
            return within(s, manySayings);
        }

        boolean hasYear(int m, int year) {
            return hasMaster(m) && year >= masters[m].born && year <= masters[m].dies;
        }

        boolean hasRoom(int m, int more) {
            return manySayings + more <= MOST_SAYINGS && masters[m].manyOwn + more <= MOST_OF_ONE;
        }

        int addCase(int traits) {
            cases[manyCases] = traits;
            manyCases++;
            return manyCases - 1;
        }

        int addMaster(int born, int dies, int teacher) {
            Master master = masters[manyMasters];
            master.born = born;
            master.dies = dies;
            master.teacher = teacher;
            master.forebears = teacher == NONE ? 0 : masters[teacher].forebears | 1 << teacher;
            manyMasters++;
            return manyMasters - 1;
        }

        int addSaying(int m, int instance, int year, int answer, int because) {
            Saying saying = sayings[manySayings];
            saying.master = m;
            saying.instance = instance;
            saying.year = year;
            saying.answer = answer;
            saying.because = because;
            Master master = masters[m];
            master.own[master.manyOwn] = manySayings;
            master.manyOwn++;
            master.mind.known = false;
            manySayings++;
            return manySayings - 1;
        }

        void reprice(int amended, int standing, int two) {
            bench.amended = amended;
            bench.standing = standing;
            bench.two = two;
            for (int m = 0; m < manyMasters; m++) masters[m].mind.known = false;
        }

        int lifeFigure(int m, int what) {
            Master master = masters[m];
            switch (what) {
                case 0: return master.born;
                case 1: return master.dies;
                case 2: return master.teacher;
                case 3: return master.manyOwn;
                default: return pupils(m);
            }
        }

        int pupils(int m) {
            int many = 0;
            for (int p = 0; p < manyMasters; p++) {
                if ((masters[p].forebears >>> m & 1) == 1) many++;
            }
            return many;
        }

        int caseTraits(int s) {
            return cases[sayings[s].instance];
        }

        int strainOf(int s, int rule) {
            Saying saying = sayings[s];
            return rules.strain(rule, caseTraits(s), saying.answer, saying.because);
        }

        /** All masters, with minds that are as the sayings and prices are now. */
        Master[] settled() {
            for (int m = 0; m < manyMasters; m++) {
                if (masters[m].mind.known) continue;
                bench.weigh(masters[m], sayings, cases);
                bench.takeTwoRules();
                masters[m].mind.learn(bench, rules);
            }
            return masters;
        }

        int changeYear(int m) {
            bench.weigh(masters[m], sayings, cases);
            return bench.firstChange(masters[m], sayings);
        }

        /** At what sum his master would be settled, if a saying answered otherwise. */
        int sumIfOtherwise(int s) {
            Saying saying = sayings[s];
            saying.answer = 1 - saying.answer;
            bench.weigh(masters[saying.master], sayings, cases);
            bench.takeTwoRules();
            saying.answer = 1 - saying.answer;
            return bench.sum;
        }

        /** Bits: the other masters by whose rules the saying's case is answered otherwise. */
        int opponents(int s, Master[] settledMasters) {
            Saying saying = sayings[s];
            int bits = 0;
            for (int m = 0; m < manyMasters; m++) {
                Master master = settledMasters[m];
                if (m == saying.master || !master.hasSpoken()) continue;
                if (rules.verdict(master.mind.lesser, caseTraits(s)) != saying.answer) bits |= 1 << m;
            }
            return bits;
        }

        boolean knownToAll(int traits, Master[] settledMasters) {
            boolean mayOwe = false;
            boolean mayNotOwe = false;
            for (int m = 0; m < manyMasters; m++) {
                Master master = settledMasters[m];
                if (!master.hasSpoken()) continue;
                mayOwe |= master.mind.mayOwe(traits);
                mayNotOwe |= master.mind.mayNotOwe(traits);
            }
            return !mayOwe || !mayNotOwe;
        }

        int manyUnsure(int traits, Master[] settledMasters) {
            int many = 0;
            for (int m = 0; m < manyMasters; m++) {
                Master master = settledMasters[m];
                if (master.hasSpoken() && master.mind.wouldSay(traits) == 2) many++;
            }
            return many;
        }

        /** How far the years of all sayings of some masters (bits) are apart; 0 without any. */
        int yearsApart(int bits) {
            int first = YEARS;
            int last = -1;
            for (int s = 0; s < manySayings; s++) {
                if ((bits >>> sayings[s].master & 1) == 0) continue;
                first = Math.min(first, sayings[s].year);
                last = Math.max(last, sayings[s].year);
            }
            return Math.max(0, last - first);
        }

        long digestFrom(long start) {
            long h = start;
            for (int c = 0; c < manyCases; c++) h = 31 * h + cases[c];
            for (int m = 0; m < manyMasters; m++) {
                for (int what = 0; what < LIFE_FIGURES; what++) h = 31 * h + lifeFigure(m, what);
            }
            for (int s = 0; s < manySayings; s++) {
                for (int what = 0; what < SAYING_FIGURES; what++) h = 31 * h + sayings[s].figure(what);
                for (int c = 0; c < MOST_COPIES; c++) h = 31 * h + sayings[s].copies[c];
            }
            h = 31 * h + bench.amended;
            h = 31 * h + bench.standing;
            return 31 * h + bench.two;
        }
    }

    private static final class Move {
        int kind = NOTE;
        int about = 0;
        int value = 0;
        boolean isOpen = false;

        int figure(int what) {
            switch (what) {
                case 0: return kind;
                case 1: return about;
                default: return value;
            }
        }
    }

    /** The moves, one by one. */
    private static final class Page {
        final Move[] moves = new Move[MOST_MOVES];
        int many = 0;
        int open = 0;
        int idle = 0;
        private final Book book;

        Page(Book book) {
            this.book = book;
            for (int m = 0; m < MOST_MOVES; m++) moves[m] = new Move();
        }

        boolean takes(int s, int kind, int v) {
            switch (kind) {
                case OBJECTION: return book.hasSaying(v) && v != s;
                case PARTED: return within(v, TRAITS);
                case HELD: return book.hasMaster(v);
                case AMENDED: return within(v, TRAITS);
                case TWO: return within(v, YEARS);
                default: return true;
            }
        }

        int addMove(int s, int kind, int v) {
            Move move = moves[many];
            move.kind = kind;
            move.about = s;
            move.value = kind == NOTE || kind == LEFT ? 0 : v;
            many++;
            return many - 1;
        }

        int objections() {
            int found = 0;
            for (int m = 0; m < many; m++) {
                if (moves[m].kind == OBJECTION) found++;
            }
            return found;
        }

        int markOf(Move move, Master[] masters) {
            Saying saying = book.sayings[move.about];
            int traits = book.caseTraits(move.about);
            switch (move.kind) {
                case OBJECTION: return Integer.bitCount(traits ^ book.caseTraits(move.value));
                case PARTED: return traits >>> move.value & 1;
                case HELD: return book.rules.verdict(masters[move.value].mind.lesser, traits);
                case AMENDED: return traits ^ 1 << move.value;
                case TWO: return sayingsFrom(saying.master, move.value);
                default:
                    return book.bench.sumOf(book.strainOf(move.about, masters[saying.master].mind.lesser));
            }
        }

        private int sayingsFrom(int m, int year) {
            int found = 0;
            for (int s = 0; s < book.manySayings; s++) {
                if (book.sayings[s].master == m && book.sayings[s].year >= year) found++;
            }
            return found;
        }

        /** Follows all moves; open and idle tell what is left. */
        void readThrough(Master[] masters) {
            open = 0;
            idle = 0;
            for (int m = 0; m < many; m++) {
                Move move = moves[m];
                move.isOpen = move.kind == OBJECTION;
                if (move.isOpen) open++;
                if (move.kind < PARTED) continue;
                int answered = lastOpen(m, move.about);
                if (answered != NONE && closes(move, moves[answered].value, masters)) {
                    moves[answered].isOpen = false;
                    open--;
                } else {
                    idle++;
                }
            }
        }

        private int lastOpen(int ahead, int about) {
            for (int m = ahead - 1; m >= 0; m--) {
                if (moves[m].isOpen && moves[m].about == about) return m;
            }
            return NONE;
        }

        /** Whether a move answers the objection that another saying does not fit the one it is about. */
        private boolean closes(Move move, int otherSaying, Master[] masters) {
            Saying saying = book.sayings[move.about];
            Saying other = book.sayings[otherSaying];
            int traits = book.caseTraits(move.about);
            int otherTraits = book.caseTraits(otherSaying);
            switch (move.kind) {
                case PARTED:
                    return ((traits ^ otherTraits) >>> move.value & 1) == 1;
                case HELD:
                    return book.rules.verdict(masters[move.value].mind.lesser, otherTraits) == other.answer;
                case AMENDED:
                    return fitsSomeCheap(saying, traits ^ 1 << move.value, masters[other.master].mind);
                case TWO:
                    return saying.master == other.master && saying.year < move.value != other.year < move.value;
                default:
                    return true;
            }
        }

        private boolean fitsSomeCheap(Saying saying, int readTraits, Mind mind) {
            for (int i = 0; i < mind.manyCheap; i++) {
                if (book.rules.fitting(mind.cheapRules[i], readTraits, saying.answer, saying.because)) return true;
            }
            return false;
        }

        long digestFrom(long start) {
            long h = start;
            for (int m = 0; m < many; m++) {
                for (int what = 0; what < MOVE_FIGURES; what++) h = 31 * h + moves[m].figure(what);
            }
            return h;
        }
    }

    /** What is law. */
    private static final class Court {
        // What the latest ruling stands on: the votes for owed, or the master who died last.
        int ground = 0;
        private final Book book;

        Court(Book book) {
            this.book = book;
        }

        int ruling(int by, int traits, Master[] masters) {
            return by == BY_LATER ? ofTheLater(traits, masters) : ofTheMore(by, traits, masters);
        }

        private int ofTheMore(int by, int traits, Master[] masters) {
            int owed = 0;
            int not = 0;
            for (int m = 0; m < book.manyMasters; m++) {
                if (!masters[m].hasSpoken()) continue;
                int votes = by == BY_MORE ? 1 : book.pupils(m) + 1;
                if (book.rules.verdict(masters[m].mind.lesser, traits) == 1) {
                    owed += votes;
                } else {
                    not += votes;
                }
            }
            ground = owed;
            return owed == not ? NONE : owed > not ? 1 : 0;
        }

        private int ofTheLater(int traits, Master[] masters) {
            int last = NONE;
            for (int m = 0; m < book.manyMasters; m++) {
                if (!masters[m].hasSpoken()) continue;
                if (last == NONE || masters[m].dies > masters[last].dies) last = m;
            }
            ground = last;
            return last == NONE ? NONE : book.rules.verdict(masters[last].mind.lesser, traits);
        }
    }
}
