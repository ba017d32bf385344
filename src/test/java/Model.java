import java.util.ArrayList;
import java.util.Arrays;
import java.util.HashSet;
import java.util.List;
import java.util.Set;
import java.util.regex.Matcher;
import java.util.regex.Pattern;

/**
 * The document once more, in its own words and without haste: rows are made and asked two by two,
 * sets are gone through one by one. ModelTest holds the class against it.
 */
final class Model {
    private static final String[] NAMES = {"print", "burnt", "cast", "forged", "recut", "melted"};
    private static final Pattern TOKEN = Pattern.compile("[a-z]+|[0-9]+|;|[^ ]", Pattern.DOTALL);

    private static final class P {
        int kind;
        Set<Integer> marks = new HashSet<>();
        int width = 1000;
        int year;
        boolean seen;

        P(int kind) {
            this.kind = kind;
        }

        P(P other) {
            kind = other.kind;
            marks = new HashSet<>(other.marks);
            width = other.width;
            year = other.year;
            seen = other.seen;
        }

        int trueWidth() {
            int print = width;
            int burnt = 100 * print / 90;
            int cast = 100 * print / 97;
            int[] byKinds = {print, burnt, cast, cast + 10, print, 100 * burnt / 80};
            return byKinds[kind];
        }

        boolean hides(int place) {
            if (!seen && place >= 30) {
                return true;
            }
            boolean fire = kind == 1 || kind == 5;
            return fire && place % 2 == 1 || kind == 5 && place >= 20;
        }

        boolean shows(int place) {
            return marks.contains(place) && !hides(place);
        }

        long told(int what) {
            long set = 0;
            for (int k = 0; k < 40; k++) {
                boolean is = what == 0 ? marks.contains(k) : what == 1 ? shows(k) : hides(k);
                set += is ? 1L << k : 0;
            }
            return set;
        }

        boolean isCast() {
            return kind == 2 || kind == 3;
        }
    }

    private List<P> prints = new ArrayList<>();
    private int slack = 20;
    private List<P> keptPrints;
    private int keptSlack;
    private StringBuilder tape = new StringBuilder();
    private final int[] bits = new int[4];
    private final long[][] sheets = new long[4][0];
    private final long[] tally = new long[7];

    private long found(long finding) {
        tally[(int) (Check.BEYOND - finding)]++;
        return finding;
    }

    private boolean no(int p) {
        return p < 0 || p >= prints.size();
    }

    private boolean noTwo(int a, int b) {
        return no(a) || no(b) || a == b;
    }

    private boolean noSet(int set) {
        return set < 0 || set >= 1 << prints.size();
    }

    private boolean canBe(P a, P b, int withSlack) {
        for (int k = 0; k < 40 && b.kind != 4; k++) {
            if (a.shows(k) && !b.shows(k) && !b.hides(k)) {
                return false;
            }
        }
        return Math.abs(a.trueWidth() - b.trueWidth()) <= withSlack;
    }

    private boolean isRow(List<P> row) {
        for (int i = 0; i < row.size(); i++) {
            for (int j = i + 1; j < row.size(); j++) {
                if (!canBe(row.get(i), row.get(j), slack)) {
                    return false;
                }
            }
        }
        return true;
    }

    private List<Integer> numbers(int set) {
        List<Integer> in = new ArrayList<>();
        for (int p = 0; p < prints.size(); p++) {
            if ((set >> p & 1) == 1) {
                in.add(p);
            }
        }
        return in;
    }

    private List<P> byYears(int set) {
        List<Integer> in = numbers(set);
        in.sort((a, b) -> prints.get(a).year != prints.get(b).year
                ? prints.get(a).year - prints.get(b).year : a - b);
        List<P> row = new ArrayList<>();
        for (int p : in) {
            row.add(prints.get(p));
        }
        return row;
    }

    private boolean isRing(int set) {
        return isRow(byYears(set));
    }

    private int all() {
        return (1 << prints.size()) - 1;
    }

    long print(int kind, long marks) {
        if (kind < 0 || kind > 5) {
            return found(Check.BEYOND);
        }
        if (prints.size() == 12) {
            return found(Check.FULL);
        }
        P p = new P(kind);
        for (int k = 0; k < 40; k++) {
            if ((marks >> k & 1) == 1) {
                p.marks.add(k);
            }
        }
        prints.add(p);
        return prints.size() - 1;
    }

    long of(int p, int what) {
        if (no(p) || what < 0 || what > 5) {
            return found(Check.BEYOND);
        }
        P it = prints.get(p);
        int[] whats = {it.kind, it.width, it.year, it.seen ? 1 : 0, it.trueWidth(),
            Long.bitCount(it.told(1))};
        return whats[what];
    }

    long marks(int p, int what) {
        return no(p) || what < 0 || what > 2 ? found(Check.BEYOND) : prints.get(p).told(what);
    }

    long set(int p, int what, int v) {
        boolean may = what == 1 && v >= 1 && v <= 9999 || what == 2 && v >= 0 && v <= 2000;
        if (no(p) || !may) {
            return found(Check.BEYOND);
        }
        P it = prints.get(p);
        long was = what == 1 ? it.width : it.year;
        if (what == 1) {
            it.width = v;
        } else {
            it.year = v;
        }
        return was;
    }

    long scratch(int p, int place, boolean is) {
        if (no(p) || place < 0 || place > 39) {
            return found(Check.BEYOND);
        }
        Set<Integer> marks = prints.get(p).marks;
        return (is ? marks.add(place) : marks.remove(place)) ? 1 : 0;
    }

    long look(int p) {
        if (no(p)) {
            return found(Check.BEYOND);
        }
        long isNew = prints.get(p).seen ? 0 : 1;
        prints.get(p).seen = true;
        return isNew;
    }

    long turn(int p, int kind) {
        if (no(p) || kind < 0 || kind > 5) {
            return found(Check.BEYOND);
        }
        long was = prints.get(p).kind;
        prints.get(p).kind = kind;
        return was;
    }

    long as(int p, int kind) {
        if (no(p) || kind < 0 || kind > 5) {
            return found(Check.BEYOND);
        }
        String[] lines = {"0", "10", "20", "320", "40", "510"};
        boolean is = lines[prints.get(p).kind].contains("" + kind);
        return is ? prints.get(p).year : found(Check.KIND);
    }

    long slack(int v) {
        if (v < 0 || v > 999) {
            return found(Check.BEYOND);
        }
        long was = slack;
        slack = v;
        return was;
    }

    long ahead(int a, int b) {
        return noTwo(a, b) ? found(Check.BEYOND)
                : canBe(prints.get(a), prints.get(b), slack) ? 1 : 0;
    }

    long order(int a, int b) {
        return noTwo(a, b) ? found(Check.BEYOND)
                : (canBe(prints.get(a), prints.get(b), slack) ? 1 : 0)
                + (canBe(prints.get(b), prints.get(a), slack) ? 2 : 0);
    }

    long alike(int a, int b) {
        if (noTwo(a, b)) {
            return found(Check.BEYOND);
        }
        int n = 0;
        for (int k = 0; k < 40; k++) {
            P one = prints.get(a);
            P other = prints.get(b);
            if (!one.hides(k) && !other.hides(k) && one.shows(k) == other.shows(k)) {
                n++;
            }
        }
        return n;
    }

    long slackFor(int a, int b) {
        if (noTwo(a, b)) {
            return found(Check.BEYOND);
        }
        for (int v = 0; v <= 999; v++) {
            if (canBe(prints.get(a), prints.get(b), v) || canBe(prints.get(b), prints.get(a), v)) {
                return v;
            }
        }
        return found(Check.NONE);
    }

    long came(int a, int b) {
        if (noTwo(a, b)) {
            return found(Check.BEYOND);
        }
        P one = prints.get(a);
        P other = prints.get(b);
        if (!canBe(one, other, slack)) {
            return found(Check.STATE);
        }
        int n = 0;
        for (int k = 0; k < 40; k++) {
            if (other.shows(k) && !one.shows(k) && !one.hides(k)) {
                n++;
            }
        }
        return n;
    }

    long ring(int set) {
        return noSet(set) ? found(Check.BEYOND) : isRing(set) ? 1 : 0;
    }

    private boolean[] ringsOf() {
        boolean[] is = new boolean[1 << prints.size()];
        for (int set = 0; set < is.length; set++) {
            int low = set & -set;
            int high = Integer.highestOneBit(set);
            // A ring without its lowest or without its highest is one; so is every two of it.
            is[set] = Integer.bitCount(set) <= 2 ? isRing(set)
                    : is[set - low] && is[set - high] && is[low + high];
        }
        return is;
    }

    private int bestOf(int set) {
        boolean[] is = ringsOf();
        int best = 0;
        for (int part = 0; part <= set; part++) {
            if ((part & ~set) == 0 && is[part] && Integer.bitCount(part) > Integer.bitCount(best)) {
                best = part;
            }
        }
        return best;
    }

    long most(int set) {
        return noSet(set) ? found(Check.BEYOND) : Integer.bitCount(bestOf(set));
    }

    long best(int set) {
        return noSet(set) ? found(Check.BEYOND) : bestOf(set);
    }

    private int fewestOf(int set) {
        boolean[] is = ringsOf();
        int[] least = new int[set + 1];
        for (int part = 1; part <= set; part++) {
            if ((part & ~set) != 0) {
                continue;
            }
            least[part] = 99;
            for (int one = part; one > 0; one = one - 1 & part) {
                if (is[one]) {
                    least[part] = Math.min(least[part], 1 + least[part - one]);
                }
            }
        }
        return least[set];
    }

    long fewest(int set) {
        return noSet(set) ? found(Check.BEYOND) : fewestOf(set);
    }

    long alone(int set) {
        if (noSet(set)) {
            return found(Check.BEYOND);
        }
        int those = 0;
        for (int p : numbers(set)) {
            boolean isAlone = true;
            for (int q : numbers(set)) {
                isAlone = isAlone && (p == q || !isRing(1 << p | 1 << q));
            }
            those += isAlone ? 1 << p : 0;
        }
        return those;
    }

    /** All rows of a set that are of one ring, the first by numbers first. */
    private void rows(List<Integer> begun, List<Integer> left, List<List<Integer>> into) {
        if (left.isEmpty()) {
            into.add(begun);
        }
        for (int p : left) {
            boolean can = true;
            for (int q : begun) {
                can = can && canBe(prints.get(q), prints.get(p), slack);
            }
            if (can) {
                List<Integer> longer = new ArrayList<>(begun);
                List<Integer> fewer = new ArrayList<>(left);
                longer.add(p);
                fewer.remove((Integer) p);
                rows(longer, fewer, into);
            }
        }
    }

    long orders(int set) {
        if (noSet(set)) {
            return found(Check.BEYOND);
        }
        if (numbers(set).size() > 8) {
            return found(Check.SIZE);
        }
        List<List<Integer>> those = new ArrayList<>();
        rows(new ArrayList<>(), numbers(set), those);
        return those.size();
    }

    long ith(int set, int i) {
        if (noSet(set) || i < 0 || i > 7) {
            return found(Check.BEYOND);
        }
        if (numbers(set).size() > 8) {
            return found(Check.SIZE);
        }
        List<List<Integer>> those = new ArrayList<>();
        rows(new ArrayList<>(), numbers(set), those);
        return those.isEmpty() || i >= those.get(0).size() ? found(Check.NONE)
                : those.get(0).get(i);
    }

    long falseDate(int set) {
        if (noSet(set)) {
            return found(Check.BEYOND);
        }
        if (isRing(set)) {
            return found(Check.STATE);
        }
        for (int p : numbers(set)) {
            List<P> others = byYears(set - (1 << p));
            for (int at = 0; at <= others.size(); at++) {
                List<P> row = new ArrayList<>(others);
                row.add(at, prints.get(p));
                if (isRow(row)) {
                    return p;
                }
            }
        }
        return found(Check.NONE);
    }

    long had(int set, int year) {
        if (noSet(set) || year < 0 || year > 2000) {
            return found(Check.BEYOND);
        }
        List<P> row = byYears(set);
        row.removeIf(p -> p.year > year);
        int from = 0;
        for (int i = 0; i < row.size(); i++) {
            from = row.get(i).kind == 4 ? i : from;
        }
        long those = 0;
        for (P p : row.subList(from, row.size())) {
            those |= p.told(1);
        }
        return those;
    }

    long hadNot(int set, int year) {
        if (noSet(set) || year < 0 || year > 2000) {
            return found(Check.BEYOND);
        }
        List<P> row = byYears(set);
        row.removeIf(p -> p.year < year);
        int to = row.size();
        for (int i = row.size() - 1; i >= 0; i--) {
            to = row.get(i).kind == 4 && row.get(i).year > year ? i : to;
        }
        long those = 0;
        for (P p : row.subList(0, to)) {
            for (int k = 0; k < 40; k++) {
                those |= p.shows(k) || p.hides(k) ? 0 : 1L << k;
            }
        }
        return those;
    }

    private int source(int print) {
        P its = prints.get(print);
        for (int p = 0; p < prints.size(); p++) {
            P from = prints.get(p);
            if (p != print && from.year <= its.year && from.marks.equals(its.marks)
                    && from.width * 96 <= 100 * its.width && from.width * 98 >= 100 * its.width) {
                return p;
            }
        }
        return -1;
    }

    long castOf(int p) {
        if (no(p)) {
            return found(Check.BEYOND);
        }
        if (!prints.get(p).isCast()) {
            return found(Check.STATE);
        }
        return source(p) < 0 ? found(Check.NONE) : source(p);
    }

    long deep(int p) {
        if (no(p)) {
            return found(Check.BEYOND);
        }
        int steps = 0;
        for (int at = p; steps < 12 && prints.get(at).isCast() && source(at) >= 0; steps++) {
            at = source(at);
        }
        return steps;
    }

    long tell() {
        int now = fewestOf(all());
        int best = -1;
        int greatest = 0;
        for (int p = 0; p < prints.size(); p++) {
            if (!prints.get(p).seen) {
                prints.get(p).seen = true;
                int change = Math.abs(fewestOf(all()) - now);
                prints.get(p).seen = false;
                if (change > greatest) {
                    greatest = change;
                    best = p;
                }
            }
        }
        return best < 0 ? found(Check.NONE) : best;
    }

    long kind(int p) {
        if (no(p)) {
            return found(Check.BEYOND);
        }
        int was = prints.get(p).kind;
        int[] fits = new int[6];
        for (int kind = 0; kind < 6; kind++) {
            prints.get(p).kind = kind;
            for (int q = 0; q < prints.size(); q++) {
                fits[kind] += q != p && isRing(1 << p | 1 << q) ? 1 : 0;
            }
        }
        prints.get(p).kind = was;
        int best = 5;
        for (int kind = 4; kind >= 0; kind--) {
            best = fits[kind] >= fits[best] ? kind : best;
        }
        return best;
    }

    long pairs() {
        int n = 0;
        for (int set = 0; set <= all(); set++) {
            n += Integer.bitCount(set) == 2 && isRing(set) ? 1 : 0;
        }
        return n;
    }

    long feed(int bytes, int n) {
        if (n < 1 || n > 4) {
            return found(Check.BEYOND);
        }
        if (tape.length() + n > 120) {
            return found(Check.FULL);
        }
        for (int k = 4 - n; k < 4; k++) {
            tape.append((char) (bytes >> 24 - 8 * k & 255));
        }
        return tape.length();
    }

    long wipe() {
        long was = tape.length();
        tape = new StringBuilder();
        return was;
    }

    long text() {
        String text = tape.toString();
        tape = new StringBuilder();
        List<P> oldPrints = copyOf(prints);
        int oldSlack = slack;
        List<String> tokens = new ArrayList<>();
        List<Integer> at = new ArrayList<>();
        Matcher m = TOKEN.matcher(text);
        while (m.find()) {
            tokens.add(m.group());
            at.add(m.start());
        }
        tokens.add("");
        at.add(text.length());
        int i = 0;
        int items = 0;
        while (true) {
            int to = item(tokens, i);
            if (to >= 0 && (tokens.get(to).isEmpty() || tokens.get(to).equals(";"))) {
                items++;
                if (tokens.get(to).isEmpty()) {
                    return items;
                }
                i = to + 1;
                continue;
            }
            prints = oldPrints;
            slack = oldSlack;
            return -1 - at.get(to >= 0 ? to : -1 - to);
        }
    }

    private static int worth(String token) {
        if (!token.matches("[0-9]+")) {
            return -1;
        }
        String cut = token.replaceFirst("^0+(?=.)", "");
        return cut.length() > 4 ? 10000 : Integer.parseInt(cut);
    }

    private static boolean within(String token, int least, int greatest) {
        return worth(token) >= least && worth(token) <= greatest;
    }

    /** Reads an item: the first token behind it, or -1 less that which is at fault. */
    private int item(List<String> t, int i) {
        String first = t.get(i);
        if (first.equals("slack") || first.equals("look")) {
            boolean isSlack = first.equals("slack");
            if (!within(t.get(i + 1), 0, isSlack ? 999 : prints.size() - 1)) {
                return -1 - (i + 1);
            }
            if (isSlack) {
                slack = worth(t.get(i + 1));
            } else {
                prints.get(worth(t.get(i + 1))).seen = true;
            }
            return i + 2;
        }
        int kind = Arrays.asList(NAMES).indexOf(first);
        if (kind < 0 || prints.size() == 12) {
            return -1 - i;
        }
        P p = new P(kind);
        prints.add(p);
        i++;
        while (worth(t.get(i)) >= 0) {
            if (p.marks.size() == 8 || !within(t.get(i), 0, 39) || !p.marks.add(worth(t.get(i)))) {
                return -1 - i;
            }
            i++;
        }
        if (t.get(i).equals("width")) {
            if (!within(t.get(i + 1), 1, 9999)) {
                return -1 - (i + 1);
            }
            p.width = worth(t.get(i + 1));
            i += 2;
        }
        if (t.get(i).equals("year")) {
            if (!within(t.get(i + 1), 0, 2000)) {
                return -1 - (i + 1);
            }
            p.year = worth(t.get(i + 1));
            i += 2;
        }
        if (t.get(i).equals("seen")) {
            p.seen = true;
            i++;
        }
        return i;
    }

    private static List<P> copyOf(List<P> those) {
        List<P> copy = new ArrayList<>();
        for (P p : those) {
            copy.add(new P(p));
        }
        return copy;
    }

    long sheet(int s, int b, int n) {
        if (s < 0 || s > 3 || b != 0 && b != 8 && b != 16 && b != 64) {
            return found(Check.BEYOND);
        }
        if (n < 0) {
            return found(Check.SIZE);
        }
        if (n > 40) {
            return found(Check.BEYOND);
        }
        bits[s] = b;
        sheets[s] = new long[b == 0 ? 0 : n];
        return sheets[s].length;
    }

    private long noSheet(int s) {
        return s < 0 || s > 3 ? Check.BEYOND : bits[s] == 0 ? Check.MISSING : 0;
    }

    private void put(int s, int i, long v) {
        sheets[s][i] = v << 64 - bits[s] >> 64 - bits[s];
    }

    long write(int s, int i, long v) {
        if (noSheet(s) != 0) {
            return found(noSheet(s));
        }
        if (i < 0 || i >= sheets[s].length) {
            return found(Check.BEYOND);
        }
        long was = sheets[s][i];
        put(s, i, v);
        return was;
    }

    long copy(int s, int from, int t, int to, int n) {
        if (noSheet(s) == Check.BEYOND || noSheet(t) == Check.BEYOND) {
            return found(Check.BEYOND);
        }
        if (noSheet(s) != 0 || noSheet(t) != 0) {
            return found(Check.MISSING);
        }
        if (bits[s] != bits[t]) {
            return found(Check.KIND);
        }
        if (from < 0 || to < 0 || n < 0 || (long) from + n > sheets[s].length
                || (long) to + n > sheets[t].length) {
            return found(Check.BEYOND);
        }
        long[] were = sheets[s].clone();
        for (int k = 0; k < n; k++) {
            sheets[t][to + k] = were[from + k];
        }
        return n;
    }

    long dates(int s) {
        if (noSheet(s) != 0) {
            return found(noSheet(s));
        }
        int came = 0;
        for (int i = 0; i < sheets[s].length; i++) {
            if (!no(i) && sheets[s][i] >= 0 && sheets[s][i] <= 2000) {
                prints.get(i).year = (int) sheets[s][i];
                came++;
            }
        }
        return came;
    }

    long show(int s) {
        if (noSheet(s) != 0) {
            return found(noSheet(s));
        }
        int came = 0;
        for (int i = 0; i < sheets[s].length && !no(i); i++) {
            put(s, i, prints.get(i).told(1));
            came++;
        }
        return came;
    }

    long read(int s) {
        if (noSheet(s) != 0) {
            return found(noSheet(s));
        }
        List<P> row = new ArrayList<>();
        for (int i = 0; i < sheets[s].length; i++) {
            long v = sheets[s][i];
            if (v < 0 || v >= prints.size() || row.contains(prints.get((int) v))) {
                return 1 + i;
            }
            row.add(prints.get((int) v));
            if (!isRow(row)) {
                return 1 + i;
            }
        }
        return 0;
    }

    long image() {
        keptPrints = copyOf(prints);
        keptSlack = slack;
        return 1;
    }

    long undo() {
        if (keptPrints == null) {
            return found(Check.NONE);
        }
        prints = copyOf(keptPrints);
        slack = keptSlack;
        return prints.size();
    }

    long tear() {
        long was = keptPrints == null ? 0 : 1;
        keptPrints = null;
        return was;
    }

    long count(int what) {
        int seen = 0;
        int marks = 0;
        for (P p : prints) {
            seen += p.seen ? 1 : 0;
            marks += p.marks.size();
        }
        int[] counts = {prints.size(), seen, tape.length(), slack, marks};
        return what < 0 || what > 4 ? found(Check.BEYOND) : counts[what];
    }

    long status(int which) {
        if (which < -1 || which > 6) {
            return found(Check.BEYOND);
        }
        return which >= 0 ? tally[which] : Arrays.stream(tally).sum();
    }
}
