import java.math.BigInteger;
import java.util.ArrayList;
import java.util.List;
import java.util.TreeSet;
import java.util.regex.Pattern;

/** A slow twin of QuarrelBook, written straight from the document: it keeps no result and spares no loop. */
public final class NaiveBook {
    private static final int BAD = -1, FULL = -2, FINDING = -3, STATE = -4, NONE = -9;

    private record Said(int master, int instance, int year, int answer, int because) {
    }

    private record Life(int born, int dies, int teacher) {
    }

    private record Made(int kind, int about, int value) {
    }

    private record Settled(int sum, int lesser, int greater) {
    }

    private final int[][] rows = new int[6][];
    private final byte[][] texts = new byte[4][];
    private final List<Integer> cases = new ArrayList<>();
    private final List<Life> masters = new ArrayList<>();
    private final List<Said> said = new ArrayList<>();
    private final List<int[]> copies = new ArrayList<>();
    private final List<Made> moves = new ArrayList<>();
    private int amended = 3, standing = 5, two = 7;
    private int asked = 0;
    private BigInteger upper = BigInteger.ZERO, lower = BigInteger.ONE;
    private final List<Integer> found = new ArrayList<>();

    /** For a test that asks the twin alone and leaves no trace. */
    void restoreAsked(int was) {
        asked = was;
    }

    private int find(int finding) {
        found.add(finding);
        return FINDING;
    }

    private static boolean in(int v, int from, int to) {
        return from <= v && v <= to;
    }

    private static boolean of(int v, List<?> list) {
        return in(v, 0, list.size() - 1);
    }

    public int row(int r, int n) {
        if (!in(r, 0, 5) || n > 40) return BAD;
        if (n < 0) return find(5);
        rows[r] = new int[n];
        return n;
    }

    public int lay(int r, int i, int v) {
        if (!in(r, 0, 5)) return BAD;
        if (rows[r] == null) return find(1);
        if (!in(i, 0, rows[r].length - 1)) return find(2);
        asked = rows[r][i];
        rows[r][i] = v;
        return 1;
    }

    public int tear(int r) {
        if (!in(r, 0, 5)) return BAD;
        if (rows[r] == null) return find(1);
        rows[r] = null;
        return 1;
    }

    public int copy(int r, int i, int to, int j, int n) {
        if (!in(r, 0, 5) || !in(to, 0, 5)) return BAD;
        if (n < 0) return find(5);
        if (rows[r] == null || rows[to] == null) return find(1);
        if (i < 0 || j < 0 || (long) i + n > rows[r].length || (long) j + n > rows[to].length) return find(2);
        int[] taken = rows[r].clone();
        for (int k = 0; k < n; k++) rows[to][j + k] = taken[i + k];
        return 1;
    }

    public int mean(int r) {
        if (!in(r, 0, 5)) return BAD;
        if (rows[r] == null) return find(1);
        if (rows[r].length == 0) return find(4);
        BigInteger sum = BigInteger.ZERO;
        for (int v : rows[r]) sum = sum.add(BigInteger.valueOf(v));
        asked = sum.divide(BigInteger.valueOf(rows[r].length)).intValueExact();
        return 1;
    }

    public int text(int t, int n) {
        if (!in(t, 0, 3) || n > 40) return BAD;
        if (n < 0) return find(5);
        texts[t] = " ".repeat(n).getBytes();
        return n;
    }

    public int put(int t, int i, int v) {
        if (!in(t, 0, 3)) return BAD;
        if (texts[t] == null) return find(1);
        if (!in(i, 0, texts[t].length - 1)) return find(2);
        int was = texts[t][i];
        texts[t][i] = (byte) v;
        return was + 1000;
    }

    public int instance(int traits) {
        if (!in(traits, 0, 31)) return BAD;
        if (cases.size() == 12) return FULL;
        cases.add(traits);
        return cases.size() - 1;
    }

    public int master(int born, int dies, int teacher) {
        if (!in(born, 0, 999) || !in(dies, born, 999) || teacher != NONE && !of(teacher, masters)) return BAD;
        if (masters.size() == 8) return FULL;
        masters.add(new Life(born, dies, teacher));
        return masters.size() - 1;
    }

    private boolean lives(int m, int year) {
        return of(m, masters) && in(year, masters.get(m).born, masters.get(m).dies);
    }

    private List<Integer> ofMaster(int m) {
        List<Integer> own = new ArrayList<>();
        for (int s = 0; s < said.size(); s++) if (said.get(s).master == m) own.add(s);
        return own;
    }

    private void add(Said one) {
        said.add(one);
        copies.add(new int[] {NONE, NONE, NONE, NONE, NONE});
    }

    public int saying(int master, int instance, int year, int answer, int because) {
        if (!lives(master, year) || !of(instance, cases) || !in(answer, 0, 1)) return BAD;
        if (because != NONE && !in(because, 0, 4)) return BAD;
        if (said.size() == 24 || ofMaster(master).size() == 9) return FULL;
        add(new Said(master, instance, year, answer, because));
        return said.size() - 1;
    }

    public int sayings(int master, int year, int r) {
        if (!lives(master, year) || !in(r, 0, 5)) return BAD;
        if (rows[r] == null) return find(1);
        for (int v : rows[r]) if (!in(v, -128, 127) || !of(Math.floorMod(v, 16), cases)) return find(3);
        if (said.size() + rows[r].length > 24 || ofMaster(master).size() + rows[r].length > 9) return FULL;
        for (int v : rows[r]) {
            add(new Said(master, Math.floorMod(v, 16), year, Math.floorMod(Math.floorDiv(v, 16), 2), NONE));
        }
        return rows[r].length;
    }

    private int toldOf(int s, int what) {
        Said one = said.get(s);
        return new int[] {one.master, one.instance, one.year, one.answer, one.because}[what];
    }

    public int told(int s, int what) {
        if (!of(s, said) || !in(what, 0, 4)) return BAD;
        asked = toldOf(s, what);
        return 1;
    }

    public int traits(int c) {
        return of(c, cases) ? cases.get(c) : BAD;
    }

    private int pupils(int m) {
        int many = 0;
        for (int p = 0; p < masters.size(); p++) {
            int up = masters.get(p).teacher;
            while (up != NONE && up != m) up = masters.get(up).teacher;
            if (up == m) many++;
        }
        return many;
    }

    private int lifeOf(int m, int what) {
        Life one = masters.get(m);
        return new int[] {one.born, one.dies, one.teacher, ofMaster(m).size(), pupils(m)}[what];
    }

    public int life(int m, int what) {
        if (!of(m, masters) || !in(what, 0, 4)) return BAD;
        asked = lifeOf(m, what);
        return 1;
    }

    private static final Pattern RULE = Pattern.compile(" *(0|1|!?[abcde](!?[abcde])*) *");

    private static boolean rising(String text) {
        String letters = text.replaceAll("[^a-e]", "");
        for (int i = 1; i < letters.length(); i++) if (letters.charAt(i) <= letters.charAt(i - 1)) return false;
        return true;
    }

    private static String signs(byte[] bytes) {
        StringBuilder signs = new StringBuilder();
        for (byte b : bytes) signs.append((char) (b & 255));
        return signs.toString();
    }

    /** Whether some end makes a rule of it (letters not told to rise: those are looked at beside it). */
    private static boolean canGoOn(String head) {
        for (String end : new String[] {"", "a", "0"}) if (RULE.matcher(head + end).matches()) return true;
        return false;
    }

    private static int faultOf(byte[] bytes) {
        String text = signs(bytes);
        for (int n = 1; n <= text.length(); n++) {
            String head = text.substring(0, n);
            if (!canGoOn(head) || !rising(head)) return n - 1;
        }
        return RULE.matcher(text).matches() ? NONE : text.length();
    }

    public int fault(int t) {
        if (!in(t, 0, 3)) return BAD;
        return texts[t] == null ? find(1) : faultOf(texts[t]);
    }

    public int rule(int t) {
        if (!in(t, 0, 3)) return BAD;
        if (texts[t] == null) return find(1);
        if (faultOf(texts[t]) != NONE) return STATE;
        String text = signs(texts[t]).trim();
        if (text.equals("0")) return 243;
        if (text.equals("1")) return 0;
        int rule = 0;
        for (int trait = 4; trait >= 0; trait--) {
            String letter = "" + (char) ('a' + trait);
            rule = 3 * rule + (text.contains("!" + letter) ? 2 : text.contains(letter) ? 1 : 0);
        }
        return rule;
    }

    private static int figure(int rule, int trait) {
        return rule / (int) Math.round(Math.pow(3, trait)) % 3;
    }

    private static int answerOf(int rule, int traits) {
        if (rule == 243) return 0;
        for (int trait = 0; trait < 5; trait++) {
            boolean has = (traits & 1 << trait) != 0;
            if (figure(rule, trait) == 1 && !has || figure(rule, trait) == 2 && has) return 0;
        }
        return 1;
    }

    public int answers(int rule, int traits) {
        return in(rule, 0, 243) && in(traits, 0, 31) ? answerOf(rule, traits) : BAD;
    }

    private static boolean fit(int rule, int traits, int answer, int because) {
        if (answerOf(rule, traits) != answer) return false;
        return because == NONE || rule != 243 && figure(rule, because) != 0;
    }

    public int fits(int s, int rule) {
        if (!of(s, said) || !in(rule, 0, 243)) return BAD;
        Said one = said.get(s);
        return fit(rule, cases.get(one.instance), one.answer, one.because) ? 1 : 0;
    }

    public int prices(int newAmended, int newStanding, int newTwo) {
        if (!in(newAmended, 0, 99) || !in(newStanding, 0, 99) || !in(newTwo, 0, 99)) return BAD;
        amended = newAmended;
        standing = newStanding;
        two = newTwo;
        return 1;
    }

    private int costOf(Said one, int rule) {
        int traits = cases.get(one.instance);
        if (fit(rule, traits, one.answer, one.because)) return 0;
        for (int trait = 0; trait < 5; trait++) {
            if (fit(rule, traits ^ 1 << trait, one.answer, one.because)) return Math.min(standing, amended);
        }
        return standing;
    }

    public int costs(int s, int rule) {
        return of(s, said) && in(rule, 0, 243) ? costOf(said.get(s), rule) : BAD;
    }

    private List<Said> wordsOf(int m) {
        List<Said> words = new ArrayList<>();
        for (Said one : said) if (one.master == m) words.add(one);
        return words;
    }

    private int[][] costTable(List<Said> words) {
        int[][] table = new int[244][words.size()];
        for (int rule = 0; rule < 244; rule++) {
            for (int i = 0; i < words.size(); i++) table[rule][i] = costOf(words.get(i), rule);
        }
        return table;
    }

    private static int sum(int[] costs) {
        int sum = 0;
        for (int cost : costs) sum += cost;
        return sum;
    }

    private int leastOfOne(List<Said> words) {
        int least = Integer.MAX_VALUE;
        for (int[] costs : costTable(words)) least = Math.min(least, sum(costs));
        return least;
    }

    private Settled settled(List<Said> words) {
        int[][] table = costTable(words);
        Settled best = null;
        for (int rule = 0; rule < 244; rule++) {
            int sum = sum(table[rule]);
            if (best == null || sum < best.sum) best = new Settled(sum, rule, NONE);
        }
        for (int a = 0; a < 244; a++) {
            for (int b = a + 1; b < 244; b++) {
                int sum = two;
                for (int i = 0; i < words.size(); i++) sum += Math.min(table[a][i], table[b][i]);
                if (sum < best.sum) best = new Settled(sum, a, b);
            }
        }
        return best;
    }

    private Settled settledMaster(int m) {
        return settled(wordsOf(m));
    }

    private List<Integer> cheapOf(int m) {
        List<Integer> cheap = new ArrayList<>();
        List<Said> words = wordsOf(m);
        int[][] table = costTable(words);
        for (int rule = 0; rule < 244; rule++) if (sum(table[rule]) == leastOfOneKept(table)) cheap.add(rule);
        return cheap;
    }

    private static int leastOfOneKept(int[][] table) {
        int least = Integer.MAX_VALUE;
        for (int[] costs : table) least = Math.min(least, sum(costs));
        return least;
    }

    public int settle(int m) {
        if (!of(m, masters)) return BAD;
        asked = settledMaster(m).lesser;
        return settledMaster(m).sum;
    }

    public int second(int m) {
        return of(m, masters) ? settledMaster(m).greater : BAD;
    }

    public int cheap(int m) {
        if (!of(m, masters)) return BAD;
        List<Integer> cheap = cheapOf(m);
        asked = cheap.get(cheap.size() - 1);
        return cheap.size();
    }

    public int cheapAt(int m, int i) {
        if (!of(m, masters) || i < 0) return BAD;
        List<Integer> cheap = cheapOf(m);
        return i < cheap.size() ? cheap.get(i) : NONE;
    }

    public int all() {
        int sum = 0;
        for (int m = 0; m < masters.size(); m++) sum += settledMaster(m).sum;
        return sum;
    }

    private List<Integer> speakers() {
        TreeSet<Integer> speakers = new TreeSet<>();
        for (Said one : said) speakers.add(one.master);
        return new ArrayList<>(speakers);
    }

    private int[] lesserRules() {
        int[] rules = new int[masters.size()];
        for (int m = 0; m < rules.length; m++) rules[m] = settledMaster(m).lesser;
        return rules;
    }

    private int againstOf(int s, int[] rules) {
        Said one = said.get(s);
        int bits = 0;
        for (int m : speakers()) {
            if (m != one.master && answerOf(rules[m], cases.get(one.instance)) != one.answer) bits += 1 << m;
        }
        return bits;
    }

    public int against(int s) {
        return of(s, said) ? againstOf(s, lesserRules()) : BAD;
    }

    public int nobody() {
        int[] rules = lesserRules();
        List<Integer> idle = new ArrayList<>();
        for (int s = 0; s < said.size(); s++) if (againstOf(s, rules) == 0) idle.add(s);
        asked = idle.isEmpty() ? NONE : idle.get(0);
        return idle.size();
    }

    public int plain(int s) {
        if (!of(s, said)) return BAD;
        TreeSet<Integer> answers = new TreeSet<>();
        for (int m : speakers()) {
            for (int rule : cheapOf(m)) answers.add(answerOf(rule, cases.get(said.get(s).instance)));
        }
        return answers.size() == 1 ? 1 : 0;
    }

    public int changed(int m) {
        if (!of(m, masters)) return BAD;
        List<Said> words = wordsOf(m);
        int[][] table = costTable(words);
        int best = Integer.MAX_VALUE;
        int first = NONE;
        for (int y = masters.get(m).born; y <= masters.get(m).dies; y++) {
            int leastAhead = Integer.MAX_VALUE;
            int leastFrom = Integer.MAX_VALUE;
            for (int rule = 0; rule < 244; rule++) {
                int ahead = 0;
                int from = 0;
                for (int i = 0; i < words.size(); i++) {
                    if (words.get(i).year < y) ahead += table[rule][i];
                    else from += table[rule][i];
                }
                leastAhead = Math.min(leastAhead, ahead);
                leastFrom = Math.min(leastFrom, from);
            }
            if (leastAhead + leastFrom < best) {
                best = leastAhead + leastFrom;
                first = y;
            }
        }
        asked = leastOfOne(words) - best;
        return first;
    }

    public int parts(int c, int other) {
        if (!of(c, cases) || !of(other, cases)) return BAD;
        List<Integer> parting = new ArrayList<>();
        for (int trait = 0; trait < 5; trait++) {
            if ((cases.get(c) >> trait & 1) != (cases.get(other) >> trait & 1)) parting.add(trait);
        }
        asked = parting.isEmpty() ? NONE : parting.get(0);
        return parting.size();
    }

    public int met(int m, int other) {
        if (!of(m, masters) || !of(other, masters)) return BAD;
        int years = 0;
        for (int y = 0; y < 1000; y++) {
            boolean one = y - masters.get(m).born >= 15 && y <= masters.get(m).dies;
            if (one && y - masters.get(other).born >= 15 && y <= masters.get(other).dies) years++;
        }
        return years;
    }

    public int can(int bits) {
        if (bits <= 0 || bits >= 1 << masters.size()) return BAD;
        TreeSet<Integer> years = new TreeSet<>();
        for (Said one : said) if ((bits >> one.master & 1) == 1) years.add(one.year);
        asked = years.isEmpty() ? 0 : years.last() - years.first();
        return asked <= 70 ? 1 : 0;
    }

    public int reads(int copy, int s, int answer) {
        if (!in(copy, 0, 4) || !of(s, said) || answer != NONE && !in(answer, 0, 1)) return BAD;
        int was = copies.get(s)[copy];
        copies.get(s)[copy] = answer;
        return was;
    }

    public int reading(int s) {
        if (!of(s, said)) return BAD;
        int more = 0;
        asked = 0;
        for (int answer : copies.get(s)) {
            if (answer == NONE) continue;
            asked++;
            more += answer == 1 ? 1 : -1;
        }
        return more > 0 ? 1 : more < 0 ? 0 : said.get(s).answer;
    }

    public int slip(int n, int many, int k) {
        if (!in(n, 1, 12) || !in(many, 2, 9) || !in(k, 0, n)) return BAD;
        BigInteger wrong = BigInteger.ZERO;
        for (int set = 0; set < 1 << n; set++) {
            int right = n - Integer.bitCount(set);
            if (n - right >= k) wrong = wrong.add(BigInteger.valueOf(many - 1).pow(right));
        }
        BigInteger whole = BigInteger.valueOf(many).pow(n);
        BigInteger both = wrong.gcd(whole);
        upper = wrong.divide(both);
        lower = whole.divide(both);
        return 1;
    }

    private int sumReading(int s, int answer) {
        List<Said> words = new ArrayList<>();
        for (int other : ofMaster(said.get(s).master)) {
            Said one = said.get(other);
            int read = other == s ? answer : one.answer;
            words.add(new Said(one.master, one.instance, one.year, read, one.because));
        }
        return settled(words).sum;
    }

    public int runs(int s) {
        if (!of(s, said)) return BAD;
        int not = sumReading(s, 0);
        int owed = sumReading(s, 1);
        asked = Math.abs(not - owed);
        return not < owed ? 0 : owed < not ? 1 : 2;
    }

    public int move(int s, int kind, int v) {
        if (!of(s, said) || !in(kind, 0, 6)) return BAD;
        if (kind == 1 && (!of(v, said) || v == s)) return BAD;
        if ((kind == 2 || kind == 4) && !in(v, 0, 4)) return BAD;
        if (kind == 3 && !of(v, masters) || kind == 5 && !in(v, 0, 999)) return BAD;
        if (moves.size() == 40) return FULL;
        moves.add(new Made(kind, s, kind == 0 || kind == 6 ? 0 : v));
        return moves.size() - 1;
    }

    private int movedOf(int m, int what) {
        return new int[] {moves.get(m).kind, moves.get(m).about, moves.get(m).value}[what];
    }

    public int moved(int m, int what) {
        if (!of(m, moves) || !in(what, 0, 2)) return BAD;
        asked = movedOf(m, what);
        return 1;
    }

    public int mark(int m, int kind) {
        if (!of(m, moves) || !in(kind, 1, 6)) return BAD;
        Made move = moves.get(m);
        if (move.kind != kind) return find(3);
        Said one = said.get(move.about);
        int traits = cases.get(one.instance);
        if (kind == 1) return Integer.bitCount(traits ^ cases.get(said.get(move.value).instance));
        if (kind == 2) return traits >> move.value & 1;
        if (kind == 3) return answerOf(settledMaster(move.value).lesser, traits);
        if (kind == 4) return traits ^ 1 << move.value;
        if (kind == 6) return costOf(one, settledMaster(one.master).lesser);
        int from = 0;
        for (Said other : wordsOf(one.master)) if (other.year >= move.value) from++;
        return from;
    }

    private boolean closes(Made move, Said other) {
        Said one = said.get(move.about);
        int traits = cases.get(one.instance);
        int otherTraits = cases.get(other.instance);
        if (move.kind == 2) return (traits >> move.value & 1) != (otherTraits >> move.value & 1);
        if (move.kind == 3) return answerOf(settledMaster(move.value).lesser, otherTraits) == other.answer;
        if (move.kind == 5) {
            if (one.master != other.master) return false;
            return Math.min(one.year, other.year) < move.value && Math.max(one.year, other.year) >= move.value;
        }
        if (move.kind == 6) return true;
        for (int rule : cheapOf(other.master)) {
            if (fit(rule, traits ^ 1 << move.value, one.answer, one.because)) return true;
        }
        return false;
    }

    public int follow() {
        List<Made> open = new ArrayList<>();
        int idle = 0;
        for (Made move : moves) {
            if (move.kind == 1) open.add(move);
            if (move.kind < 2) continue;
            int last = open.size() - 1;
            while (last >= 0 && open.get(last).about != move.about) last--;
            if (last >= 0 && closes(move, said.get(open.get(last).value))) open.remove(last);
            else idle++;
        }
        asked = idle;
        return open.size();
    }

    /** What a law says and what is told beside it. */
    private int[] lawOf(int by, int traits, int[] rules) {
        if (by == 1) {
            int last = NONE;
            for (int m : speakers()) if (last == NONE || masters.get(m).dies > masters.get(last).dies) last = m;
            return new int[] {last == NONE ? NONE : answerOf(rules[last], traits), last};
        }
        int owed = 0;
        int not = 0;
        for (int m : speakers()) {
            int votes = by == 0 ? 1 : 1 + pupils(m);
            if (answerOf(rules[m], traits) == 1) owed += votes;
            else not += votes;
        }
        return new int[] {owed > not ? 1 : owed < not ? 0 : NONE, owed};
    }

    public int law(int by, int traits) {
        if (!in(by, 0, 2) || !in(traits, 0, 31)) return BAD;
        int[] law = lawOf(by, traits, lesserRules());
        if (law[0] != NONE) asked = law[1];
        return law[0];
    }

    public int lawsPart(int one, int other) {
        if (!in(one, 0, 2) || !in(other, 0, 2)) return BAD;
        int[] rules = lesserRules();
        int many = 0;
        for (int set = 0; set < 32; set++) if (lawOf(one, set, rules)[0] != lawOf(other, set, rules)[0]) many++;
        return many;
    }

    private static int freshBy(List<Integer> rules, int traits) {
        TreeSet<Integer> answers = new TreeSet<>();
        for (int rule : rules) answers.add(answerOf(rule, traits));
        return answers.size() == 2 ? 2 : answers.first();
    }

    public int fresh(int m, int traits) {
        return of(m, masters) && in(traits, 0, 31) ? freshBy(cheapOf(m), traits) : BAD;
    }

    public int next() {
        if (said.isEmpty()) return NONE;
        int[] unsure = new int[32];
        for (int m : speakers()) {
            List<Integer> cheap = cheapOf(m);
            for (int set = 0; set < 32; set++) if (freshBy(cheap, set) == 2) unsure[set]++;
        }
        int best = 31;
        for (int set = 31; set >= 0; set--) if (unsure[set] >= unsure[best]) best = set;
        asked = unsure[best];
        return best;
    }

    public int asked() {
        return asked;
    }

    public long upper() {
        return upper.longValueExact();
    }

    public long lower() {
        return lower.longValueExact();
    }

    public int count(int what) {
        int objections = 0;
        for (Made move : moves) if (move.kind == 1) objections++;
        int rowsThere = 0;
        for (int[] row : rows) if (row != null) rowsThere++;
        int textsThere = 0;
        for (byte[] text : texts) if (text != null) textsThere++;
        int[] counts = {cases.size(), masters.size(), said.size(), moves.size(), objections, rowsThere, textsThere};
        return in(what, 0, 6) ? counts[what] : BAD;
    }

    public int finding() {
        return found.isEmpty() ? 0 : found.get(found.size() - 1);
    }

    public int findings(int f) {
        if (!in(f, 1, 5)) return BAD;
        int many = 0;
        for (int one : found) if (one == f) many++;
        return many;
    }

    public long digest() {
        List<Integer> all = new ArrayList<>();
        for (int what = 0; what <= 6; what++) all.add(count(what));
        all.addAll(cases);
        for (int m = 0; m < masters.size(); m++) for (int what = 0; what < 5; what++) all.add(lifeOf(m, what));
        for (int s = 0; s < said.size(); s++) {
            for (int what = 0; what < 5; what++) all.add(toldOf(s, what));
            for (int read : copies.get(s)) all.add(read);
        }
        all.addAll(List.of(amended, standing, two));
        for (int m = 0; m < moves.size(); m++) for (int what = 0; what < 3; what++) all.add(movedOf(m, what));
        for (int[] row : rows) {
            all.add(row == null ? -1 : row.length);
            if (row != null) for (int v : row) all.add(v);
        }
        for (byte[] text : texts) {
            all.add(text == null ? -1 : text.length);
            if (text != null) for (byte v : text) all.add((int) v);
        }
        long h = 17;
        for (int v : all) h = 31 * h + v;
        return h;
    }
}
