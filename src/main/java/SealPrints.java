/**
 * An archive in which every charter hangs by wax: prints of seals with marks by places, of which
 * it is told whether they can be of one ring, in which order, how few rings there were, and so on.
 * Every act either answers what it found out or a finding (a number below -1000000000).
 */
public final class SealPrints {
    private static final int BEYOND = -1000000001;
    private static final int FULL = -1000000002;
    private static final int KIND = -1000000003;
    private static final int NONE = -1000000004;
    private static final int STATE = -1000000005;
    private static final int MISSING = -1000000006;
    private static final int SIZE = -1000000007;
    private static final int FINDINGS = 7;

    private static final int PRINT = 0;
    private static final int BURNT = 1;
    private static final int CAST = 2;
    private static final int FORGED = 3;
    private static final int RECUT = 4;
    private static final int MELTED = 5;
    private static final int KINDS = 6;
    /** By kinds: the one that it stands under (PRINT stands under none). */
    private static final int[] UNDER = {-1, PRINT, PRINT, CAST, PRINT, BURNT};

    private static final int MOST_PRINTS = 12;
    private static final int PLACES = 40;
    private static final long ALL_PLACES = 0xFFFFFFFFFFL;
    private static final long ODD_PLACES = 0xAAAAAAAAAAL;
    private static final long FROM_20_ON = 0xFFFFF00000L;
    private static final long FROM_30_ON = 0xFFC0000000L;
    private static final int MOST_WIDTH = 9999;
    private static final int LAST_YEAR = 2000;
    private static final int MOST_SLACK = 999;
    private static final int MOST_ORDERED = 8;
    private static final int MOST_BYTES = 120;
    private static final int MOST_NUMBERS = 40;
    private static final int SHEETS = 4;
    /** What a search answers that found no print; a finding is made of it by the face alone. */
    private static final int NOBODY = -1;

    private final Archive archive;
    private final Archive kept;
    private final Rings rings;
    private final Tape tape;
    private final TextReader reader;
    private final Sheet[] sheets;
    private final int[] tally;
    private boolean isKept;

    public SealPrints() {
        archive = new Archive();
        kept = new Archive();
        rings = new Rings(archive);
        tape = new Tape();
        reader = new TextReader(tape, archive);
        sheets = new Sheet[SHEETS];
        for (int s = 0; s < SHEETS; s++) {
            sheets[s] = new Sheet();
        }
        tally = new int[FINDINGS];
        isKept = false;
    }

    // ---- prints

    public int print(int kind, long marks) {
        if (!isKind(kind)) {
            return found(BEYOND);
        }
        if (archive.isFull()) {
            return found(FULL);
        }
        return archive.hang(kind, marks);
    }

    public int of(int print, int what) {
        if (!archive.has(print)) {
            return found(BEYOND);
        }
        Print it = archive.prints[print];
        switch (what) {
            case 0:
                return it.kind;
            case 1:
                return it.width;
            case 2:
                return it.year;
            case 3:
                return it.seen ? 1 : 0;
            case 4:
                return it.trueWidth();
            case 5:
                return Long.bitCount(it.shown());
            default:
                return found(BEYOND);
        }
    }

    public long marks(int print, int what) {
        if (!archive.has(print)) {
            return found(BEYOND);
        }
        Print it = archive.prints[print];
        switch (what) {
            case 0:
                return it.marks;
            case 1:
                return it.shown();
            case 2:
                return it.hidden();
            default:
                return found(BEYOND);
        }
    }

    public int set(int print, int what, int v) {
        if (!archive.has(print)) {
            return found(BEYOND);
        }
        Print it = archive.prints[print];
        if (what == 1 && isWidth(v)) {
            int was = it.width;
            it.width = v;
            return was;
        }
        if (what == 2 && isYear(v)) {
            int was = it.year;
            it.year = v;
            return was;
        }
        return found(BEYOND);
    }

    public int scratch(int print, int place, boolean is) {
        if (!archive.has(print) || !isPlace(place)) {
            return found(BEYOND);
        }
        Print it = archive.prints[print];
        long was = it.marks;
        long bit = 1L << place;
        it.marks = is ? was | bit : was & ~bit;
        return it.marks != was ? 1 : 0;
    }

    public int look(int print) {
        if (!archive.has(print)) {
            return found(BEYOND);
        }
        Print it = archive.prints[print];
        int isNew = it.seen ? 0 : 1;
        it.seen = true;
        return isNew;
    }

    public int turn(int print, int kind) {
        if (!archive.has(print) || !isKind(kind)) {
            return found(BEYOND);
        }
        Print it = archive.prints[print];
        int was = it.kind;
        it.kind = kind;
        return was;
    }

    public int as(int print, int kind) {
        if (!archive.has(print) || !isKind(kind)) {
            return found(BEYOND);
        }
        Print it = archive.prints[print];
        return isUnder(it.kind, kind) ? it.year : found(KIND);
    }

    public int slack(int v) {
        if (!isSlack(v)) {
            return found(BEYOND);
        }
        int was = archive.slack;
        archive.slack = v;
        return was;
    }

    // ---- two prints

    public int ahead(int one, int other) {
        if (!areTwo(one, other)) {
            return found(BEYOND);
        }
        return archive.canBe(one, other) ? 1 : 0;
    }

    public int order(int one, int other) {
        if (!areTwo(one, other)) {
            return found(BEYOND);
        }
        int first = archive.canBe(one, other) ? 1 : 0;
        int second = archive.canBe(other, one) ? 2 : 0;
        return first + second;
    }

    public int alike(int one, int other) {
        if (!areTwo(one, other)) {
            return found(BEYOND);
        }
        Print a = archive.prints[one];
        Print b = archive.prints[other];
        return Long.bitCount((a.shown() & b.shown()) | (a.bare() & b.bare()));
    }

    public int slackFor(int one, int other) {
        if (!areTwo(one, other)) {
            return found(BEYOND);
        }
        if (!archive.marksAllow(one, other) && !archive.marksAllow(other, one)) {
            return found(NONE);
        }
        int gap = archive.widthGap(one, other);
        return isSlack(gap) ? gap : found(NONE);
    }

    public int came(int one, int other) {
        if (!areTwo(one, other)) {
            return found(BEYOND);
        }
        if (!archive.canBe(one, other)) {
            return found(STATE);
        }
        return Long.bitCount(archive.prints[other].shown() & archive.prints[one].bare());
    }

    // ---- rings

    public int ring(int set) {
        if (!archive.hasAll(set)) {
            return found(BEYOND);
        }
        rings.weigh();
        return rings.isRing(set) ? 1 : 0;
    }

    public int most(int set) {
        if (!archive.hasAll(set)) {
            return found(BEYOND);
        }
        rings.weigh();
        return Integer.bitCount(rings.largestRing(set));
    }

    public int best(int set) {
        if (!archive.hasAll(set)) {
            return found(BEYOND);
        }
        rings.weigh();
        return rings.largestRing(set);
    }

    public int fewest(int set) {
        if (!archive.hasAll(set)) {
            return found(BEYOND);
        }
        rings.weigh();
        return rings.fewestRings(set);
    }

    public int alone(int set) {
        if (!archive.hasAll(set)) {
            return found(BEYOND);
        }
        rings.weigh();
        return rings.loners(set);
    }

    public int orders(int set) {
        if (!archive.hasAll(set)) {
            return found(BEYOND);
        }
        if (Integer.bitCount(set) > MOST_ORDERED) {
            return found(SIZE);
        }
        rings.weigh();
        return rings.howManyOrders(set);
    }

    public int ith(int set, int i) {
        if (!archive.hasAll(set) || i < 0 || i >= MOST_ORDERED) {
            return found(BEYOND);
        }
        if (Integer.bitCount(set) > MOST_ORDERED) {
            return found(SIZE);
        }
        rings.weigh();
        return printOr(NONE, rings.inFirstOrder(set, i));
    }

    public int falseDate(int set) {
        if (!archive.hasAll(set)) {
            return found(BEYOND);
        }
        rings.weigh();
        if (rings.isRing(set)) {
            return found(STATE);
        }
        return printOr(NONE, rings.misdated(set));
    }

    public long had(int set, int year) {
        if (!archive.hasAll(set) || !isYear(year)) {
            return found(BEYOND);
        }
        return rings.surelyHad(set, year);
    }

    public long hadNot(int set, int year) {
        if (!archive.hasAll(set) || !isYear(year)) {
            return found(BEYOND);
        }
        return rings.surelyHadNot(set, year);
    }

    // ---- casts, looks

    public int castOf(int print) {
        if (!archive.has(print)) {
            return found(BEYOND);
        }
        if (!isUnder(archive.prints[print].kind, CAST)) {
            return found(STATE);
        }
        return printOr(NONE, archive.sourceOf(print));
    }

    public int deep(int print) {
        if (!archive.has(print)) {
            return found(BEYOND);
        }
        int steps = 0;
        int from = archive.sourceOf(print);
        while (from != NOBODY && steps < MOST_PRINTS) {
            steps++;
            from = archive.sourceOf(from);
        }
        return steps;
    }

    public int tell() {
        rings.weigh();
        return printOr(NONE, rings.mostTelling());
    }

    public int kind(int print) {
        if (!archive.has(print)) {
            return found(BEYOND);
        }
        rings.weigh();
        return rings.likeliestKind(print);
    }

    public int pairs() {
        rings.weigh();
        return rings.howManyPairs();
    }

    // ---- the text

    public int feed(int bytes, int n) {
        if (n < 1 || n > 4) {
            return found(BEYOND);
        }
        if (tape.size + n > MOST_BYTES) {
            return found(FULL);
        }
        for (int k = n - 1; k >= 0; k--) {
            tape.take((bytes >>> (8 * k)) & 0xFF);
        }
        return tape.size;
    }

    public int wipe() {
        int was = tape.size;
        tape.size = 0;
        return was;
    }

    public int text() {
        int answer = reader.readArchive();
        tape.size = 0;
        return answer;
    }

    // ---- sheets

    public int sheet(int s, int bits, int n) {
        if (!isSheet(s) || !isBits(bits)) {
            return found(BEYOND);
        }
        if (n < 0) {
            return found(SIZE);
        }
        if (n > MOST_NUMBERS) {
            return found(BEYOND);
        }
        int size = bits == 0 ? 0 : n;
        sheets[s].lay(bits, size);
        return size;
    }

    public long write(int s, int i, long v) {
        if (!isSheet(s)) {
            return found(BEYOND);
        }
        Sheet it = sheets[s];
        if (it.isMissing()) {
            return found(MISSING);
        }
        if (i < 0 || i >= it.size) {
            return found(BEYOND);
        }
        long was = it.numbers[i];
        it.put(i, v);
        return was;
    }

    public int copy(int s, int from, int t, int to, int n) {
        if (!isSheet(s) || !isSheet(t)) {
            return found(BEYOND);
        }
        Sheet source = sheets[s];
        Sheet goal = sheets[t];
        if (source.isMissing() || goal.isMissing()) {
            return found(MISSING);
        }
        if (source.bits != goal.bits) {
            return found(KIND);
        }
        if (!source.hasRun(from, n) || !goal.hasRun(to, n)) {
            return found(BEYOND);
        }
        System.arraycopy(source.numbers, from, goal.numbers, to, n);
        return n;
    }

    public int dates(int s) {
        if (!isSheet(s)) {
            return found(BEYOND);
        }
        Sheet it = sheets[s];
        if (it.isMissing()) {
            return found(MISSING);
        }
        int came = 0;
        for (int p = 0; p < it.size && p < archive.size; p++) {
            long year = it.numbers[p];
            if (year >= 0 && year <= LAST_YEAR) {
                archive.prints[p].year = (int) year;
                came++;
            }
        }
        return came;
    }

    public int show(int s) {
        if (!isSheet(s)) {
            return found(BEYOND);
        }
        Sheet it = sheets[s];
        if (it.isMissing()) {
            return found(MISSING);
        }
        int shown = Math.min(it.size, archive.size);
        for (int p = 0; p < shown; p++) {
            it.put(p, archive.prints[p].shown());
        }
        return shown;
    }

    public int read(int s) {
        if (!isSheet(s)) {
            return found(BEYOND);
        }
        Sheet it = sheets[s];
        if (it.isMissing()) {
            return found(MISSING);
        }
        int came = 0;
        for (int i = 0; i < it.size; i++) {
            long number = it.numbers[i];
            if (number < 0 || number >= archive.size) {
                return 1 + i;
            }
            int p = (int) number;
            if ((came & (1 << p)) != 0 || !archive.canAllBe(came, p)) {
                return 1 + i;
            }
            came |= 1 << p;
        }
        return 0;
    }

    // ---- images

    public int image() {
        kept.become(archive);
        isKept = true;
        return 1;
    }

    public int undo() {
        if (!isKept) {
            return found(NONE);
        }
        archive.become(kept);
        return archive.size;
    }

    public int tear() {
        int was = isKept ? 1 : 0;
        isKept = false;
        return was;
    }

    public int count(int what) {
        switch (what) {
            case 0:
                return archive.size;
            case 1:
                return archive.howManySeen();
            case 2:
                return tape.size;
            case 3:
                return archive.slack;
            case 4:
                return archive.howManyMarks();
            default:
                return found(BEYOND);
        }
    }

    public int status(int which) {
        if (which < -1 || which >= FINDINGS) {
            return found(BEYOND);
        }
        if (which >= 0) {
            return tally[which];
        }
        int all = 0;
        for (int k = 0; k < FINDINGS; k++) {
            all += tally[k];
        }
        return all;
    }

    /** Counts a finding for status(), and answers it. */
    private int found(int finding) {
        int which = BEYOND - finding;
        if (which >= 0 && which < FINDINGS) {
            tally[which]++;
        }
        return finding;
    }

    private int printOr(int finding, int print) {
        return print == NOBODY ? found(finding) : print;
    }

    private boolean areTwo(int one, int other) {
        return archive.has(one) && archive.has(other) && one != other;
    }

    private static boolean isKind(int kind) {
        return kind >= 0 && kind < KINDS;
    }

    private static boolean isPlace(int place) {
        return place >= 0 && place < PLACES;
    }

    private static boolean isWidth(int width) {
        return width >= 1 && width <= MOST_WIDTH;
    }

    private static boolean isYear(int year) {
        return year >= 0 && year <= LAST_YEAR;
    }

    private static boolean isSlack(int slack) {
        return slack >= 0 && slack <= MOST_SLACK;
    }

    private static boolean isSheet(int s) {
        return s >= 0 && s < SHEETS;
    }

    private static boolean isBits(int bits) {
        return bits == 0 || bits == 8 || bits == 16 || bits == 64;
    }

    /** Whether a kind is another one or stands under it, over however many kinds between. */
    private static boolean isUnder(int kind, int above) {
        int at = kind;
        for (int step = 0; step < KINDS && isKind(at); step++) {
            if (at == above) {
                return true;
            }
            at = UNDER[at];
        }
        return false;
    }

    /** One print in wax. */
    static final class Print {
        int kind;
        int width;
        int year;
        boolean seen;
        long marks;

        void begin(int itsKind, long itsMarks) {
            kind = itsKind;
            width = 1000;
            year = 0;
            seen = false;
            marks = itsMarks & ALL_PLACES;
        }

        void become(Print other) {
            kind = other.kind;
            width = other.width;
            year = other.year;
            seen = other.seen;
            marks = other.marks;
        }

        int trueWidth() {
            switch (kind) {
                case BURNT:
                    return 100 * width / 90;
                case CAST:
                    return 100 * width / 97;
                case FORGED:
                    return 100 * width / 97 + 10;
                case MELTED:
                    return 100 * (100 * width / 90) / 80;
                default:
                    return width;
            }
        }

        long hidden() {
            long unseen = seen ? 0L : FROM_30_ON;
            switch (kind) {
                case BURNT:
                    return unseen | ODD_PLACES;
                case MELTED:
                    return unseen | ODD_PLACES | FROM_20_ON;
                default:
                    return unseen;
            }
        }

        long shown() {
            return marks & ~hidden();
        }

        /** The places at which there is surely no mark: it neither shows nor hides one. */
        long bare() {
            return ALL_PLACES & ~(marks | hidden());
        }
    }

    /** All prints and the slack: what an image keeps. */
    static final class Archive {
        final Print[] prints;
        int size;
        int slack;

        Archive() {
            prints = new Print[MOST_PRINTS];
            for (int p = 0; p < MOST_PRINTS; p++) {
                prints[p] = new Print();
            }
            size = 0;
            slack = 20;
        }

        void become(Archive other) {
            size = other.size;
            slack = other.slack;
            for (int p = 0; p < size; p++) {
                prints[p].become(other.prints[p]);
            }
        }

        boolean has(int p) {
            return p >= 0 && p < size;
        }

        boolean hasAll(int set) {
            return (set & -(1 << size)) == 0;
        }

        boolean isFull() {
            return size >= MOST_PRINTS;
        }

        /** Hangs a new print into the archive: its number, or NOBODY where there is no room. */
        int hang(int kind, long marks) {
            if (isFull()) {
                return NOBODY;
            }
            prints[size].begin(kind, marks);
            size++;
            return size - 1;
        }

        boolean canBe(int a, int b) {
            return widthsAllow(a, b) && marksAllow(a, b);
        }

        boolean widthsAllow(int a, int b) {
            return widthGap(a, b) <= slack;
        }

        boolean canAllBe(int ahead, int b) {
            for (int a = 0; a < size; a++) {
                if ((ahead & (1 << a)) != 0 && !canBe(a, b)) {
                    return false;
                }
            }
            return true;
        }

        /** A recut ring may have lost marks; any other one has all that it had. */
        boolean marksAllow(int a, int b) {
            return prints[b].kind == RECUT || (prints[a].shown() & prints[b].bare()) == 0;
        }

        int widthGap(int a, int b) {
            return Math.abs(prints[a].trueWidth() - prints[b].trueWidth());
        }

        boolean isEarlier(int a, int b) {
            int yearOfA = prints[a].year;
            int yearOfB = prints[b].year;
            return yearOfA < yearOfB || (yearOfA == yearOfB && a < b);
        }

        /** The least print from which a cast can be cast; NOBODY also for what is no cast. */
        int sourceOf(int print) {
            if (!has(print) || !isUnder(prints[print].kind, CAST)) {
                return NOBODY;
            }
            for (int p = 0; p < size; p++) {
                if (p != print && canBeCast(prints[print], prints[p])) {
                    return p;
                }
            }
            return NOBODY;
        }

        private static boolean canBeCast(Print cast, Print from) {
            return from.year <= cast.year && from.marks == cast.marks
                    && from.width * 96 <= cast.width * 100 && from.width * 98 >= cast.width * 100;
        }

        int howManySeen() {
            int n = 0;
            for (int p = 0; p < size; p++) {
                if (prints[p].seen) {
                    n++;
                }
            }
            return n;
        }

        int howManyMarks() {
            int n = 0;
            for (int p = 0; p < size; p++) {
                n += Long.bitCount(prints[p].marks);
            }
            return n;
        }
    }

    /**
     * What sets of prints are as rings. weigh() holds fast first which prints fit two by two: a row
     * is of one ring just if every two of it are, so all searches go by these sets of bits alone.
     */
    static final class Rings {
        private final Archive archive;
        /** By prints: those that it can be ahead of. */
        private final int[] laters;
        /** By prints: those that it is of one ring with, two by two, by years. */
        private final int[] mates;
        private final int[] row;
        private final int[] dealt;
        private final int[] members;
        private final int[] followers;
        private final int[] orderCounts;
        private int largest;
        private int fewestDealt;
        private int memberCount;

        Rings(Archive itsArchive) {
            archive = itsArchive;
            laters = new int[MOST_PRINTS];
            mates = new int[MOST_PRINTS];
            row = new int[MOST_PRINTS];
            dealt = new int[MOST_PRINTS];
            members = new int[MOST_ORDERED];
            followers = new int[MOST_ORDERED];
            orderCounts = new int[1 << MOST_ORDERED];
        }

        void weigh() {
            for (int p = 0; p < MOST_PRINTS; p++) {
                laters[p] = 0;
                mates[p] = 0;
            }
            for (int b = 1; b < archive.size; b++) {
                for (int a = 0; a < b; a++) {
                    weighPair(a, b);
                }
            }
        }

        private void weighOne(int p) {
            for (int q = 0; q < archive.size; q++) {
                if (q != p) {
                    weighPair(p, q);
                }
            }
        }

        private void weighPair(int a, int b) {
            boolean near = archive.widthsAllow(a, b);
            boolean ab = near && archive.marksAllow(a, b);
            boolean ba = near && archive.marksAllow(b, a);
            boolean fit = archive.isEarlier(a, b) ? ab : ba;
            note(laters, a, b, ab);
            note(laters, b, a, ba);
            note(mates, a, b, fit);
            note(mates, b, a, fit);
        }

        private static void note(int[] sets, int at, int p, boolean is) {
            int bit = 1 << p;
            sets[at] = is ? sets[at] | bit : sets[at] & ~bit;
        }

        private static boolean isIn(int set, int p) {
            return (set & (1 << p)) != 0;
        }

        private static int without(int set, int p) {
            return set & ~(1 << p);
        }

        boolean isRing(int set) {
            for (int p = 0; p < archive.size; p++) {
                if (isIn(set, p) && (without(set, p) & ~mates[p]) != 0) {
                    return false;
                }
            }
            return true;
        }

        int largestRing(int set) {
            largest = 0;
            seekLargest(0, set, MOST_PRINTS - 1);
            return largest;
        }

        /** Tries sets from the least on, so that of several of one size the least is found first. */
        private void seekLargest(int chosen, int open, int p) {
            if (Integer.bitCount(chosen | open) <= Integer.bitCount(largest)) {
                return;
            }
            if (p < 0 || p >= MOST_PRINTS) {
                largest = chosen;
                return;
            }
            seekLargest(chosen, without(open, p), p - 1);
            if (isIn(open, p)) {
                seekLargest(chosen | (1 << p), open & mates[p], p - 1);
            }
        }

        int fewestRings(int set) {
            fewestDealt = Integer.bitCount(set);
            deal(set, 0, 0);
            return fewestDealt;
        }

        /** Deals the prints from p on to the rings used so far or to a new one, in every way. */
        private void deal(int set, int p, int used) {
            if (used >= fewestDealt) {
                return;
            }
            if (p >= MOST_PRINTS) {
                fewestDealt = used;
                return;
            }
            if (!isIn(set, p)) {
                deal(set, p + 1, used);
                return;
            }
            for (int r = 0; r < used; r++) {
                if ((dealt[r] & ~mates[p]) == 0) {
                    dealt[r] |= 1 << p;
                    deal(set, p + 1, used);
                    dealt[r] = without(dealt[r], p);
                }
            }
            if (used < MOST_PRINTS) {
                dealt[used] = 1 << p;
                deal(set, p + 1, used + 1);
            }
        }

        int loners(int set) {
            int found = 0;
            for (int p = 0; p < archive.size; p++) {
                if (isIn(set, p) && (set & mates[p]) == 0) {
                    found |= 1 << p;
                }
            }
            return found;
        }

        int howManyPairs() {
            int n = 0;
            for (int p = 0; p < archive.size; p++) {
                n += Integer.bitCount(mates[p]);
            }
            return n / 2;
        }

        int howManyOrders(int set) {
            countOrders(set);
            return orderCounts[(1 << memberCount) - 1];
        }

        /** Counts the orders of every part of a set, each part being told by places in members. */
        private void countOrders(int set) {
            gatherMembers(set);
            orderCounts[0] = 1;
            for (int part = 1; part < 1 << memberCount; part++) {
                int n = 0;
                for (int k = 0; k < memberCount; k++) {
                    if (isIn(part, k) && canLead(k, without(part, k))) {
                        n += orderCounts[without(part, k)];
                    }
                }
                orderCounts[part] = n;
            }
        }

        private void gatherMembers(int set) {
            memberCount = 0;
            for (int p = 0; p < archive.size && memberCount < MOST_ORDERED; p++) {
                if (isIn(set, p)) {
                    members[memberCount] = p;
                    memberCount++;
                }
            }
            for (int k = 0; k < memberCount; k++) {
                for (int m = 0; m < memberCount; m++) {
                    note(followers, k, m, isIn(laters[members[k]], members[m]));
                }
            }
        }

        private boolean canLead(int k, int rest) {
            return (rest & ~followers[k]) == 0;
        }

        /** The i-th of the first order of a set, or NOBODY where there is no such. */
        int inFirstOrder(int set, int i) {
            countOrders(set);
            int left = (1 << memberCount) - 1;
            if (i >= memberCount || orderCounts[left] == 0) {
                return NOBODY;
            }
            int leader = NOBODY;
            for (int step = 0; step <= i; step++) {
                leader = firstLeader(left);
                if (leader == NOBODY) {
                    return NOBODY;
                }
                left = without(left, leader);
            }
            return members[leader];
        }

        /** Where a set has an order, each part of it has one: whatever can lead can be gone on from. */
        private int firstLeader(int left) {
            for (int k = 0; k < memberCount; k++) {
                if (isIn(left, k) && canLead(k, without(left, k))) {
                    return k;
                }
            }
            return NOBODY;
        }

        /** The least print of a set that is no ring which fits elsewhere among the others. */
        int misdated(int set) {
            int n = rowByYears(set);
            for (int p = 0; p < archive.size; p++) {
                if (isIn(set, p) && isRing(without(set, p)) && fitsSomewhere(p, set, n)) {
                    return p;
                }
            }
            return NOBODY;
        }

        private boolean fitsSomewhere(int p, int set, int n) {
            int after = without(set, p);
            if ((after & ~laters[p]) == 0) {
                return true;
            }
            for (int i = 0; i < n; i++) {
                int next = row[i];
                if (next == p) {
                    continue;
                }
                if (!isIn(laters[next], p)) {
                    return false;
                }
                after = without(after, next);
                if ((after & ~laters[p]) == 0) {
                    return true;
                }
            }
            return false;
        }

        /** Lays the prints of a set into the row, by years: how many they are. */
        private int rowByYears(int set) {
            int n = 0;
            for (int p = 0; p < archive.size; p++) {
                if (isIn(set, p)) {
                    int at = n;
                    while (at > 0 && archive.isEarlier(p, row[at - 1])) {
                        row[at] = row[at - 1];
                        at--;
                    }
                    row[at] = p;
                    n++;
                }
            }
            return n;
        }

        long surelyHad(int set, int year) {
            int n = rowByYears(set);
            long places = 0L;
            for (int i = 0; i < n; i++) {
                Print it = archive.prints[row[i]];
                if (it.year > year) {
                    break;
                }
                if (it.kind == RECUT) {
                    places = 0L;
                }
                places |= it.shown();
            }
            return places;
        }

        long surelyHadNot(int set, int year) {
            int n = rowByYears(set);
            long places = 0L;
            for (int i = 0; i < n; i++) {
                Print it = archive.prints[row[i]];
                if (it.year > year && it.kind == RECUT) {
                    break;
                }
                if (it.year >= year) {
                    places |= it.bare();
                }
            }
            return places;
        }

        /** The print whose look changes the fewest rings of all most, or NOBODY if none does. */
        int mostTelling() {
            int all = (1 << archive.size) - 1;
            int now = fewestRings(all);
            int told = NOBODY;
            int greatest = 0;
            for (int p = 0; p < archive.size; p++) {
                Print it = archive.prints[p];
                if (it.seen) {
                    continue;
                }
                int matesNow = mates[p];
                it.seen = true;
                weighOne(p);
                int change = mates[p] == matesNow ? 0 : Math.abs(fewestRings(all) - now);
                it.seen = false;
                weighOne(p);
                if (change > greatest) {
                    greatest = change;
                    told = p;
                }
            }
            return told;
        }

        int likeliestKind(int p) {
            Print it = archive.prints[p];
            int was = it.kind;
            int likeliest = 0;
            int most = -1;
            for (int k = 0; k < KINDS; k++) {
                it.kind = k;
                weighOne(p);
                int fitting = Integer.bitCount(mates[p]);
                if (fitting > most) {
                    most = fitting;
                    likeliest = k;
                }
            }
            it.kind = was;
            return likeliest;
        }
    }

    /** The bytes fed so far. */
    static final class Tape {
        final int[] bytes;
        int size;

        Tape() {
            bytes = new int[MOST_BYTES];
            size = 0;
        }

        void take(int b) {
            if (size < MOST_BYTES) {
                bytes[size] = b;
                size++;
            }
        }

        /** The byte at a place, or -1 where the tape has ended. */
        int at(int place) {
            return place >= 0 && place < size ? bytes[place] : -1;
        }
    }

    /** Reads the text of an archive from the tape, token by token. */
    static final class TextReader {
        private static final int END = 0;
        private static final int WORD = 1;
        private static final int NUMBER = 2;
        private static final int SIGN = 3;
        private static final int NO_TOKEN = 4;
        private static final int MOST_PLACES = 8;
        /** What every number is cut to that is above all that may be told. */
        private static final int TOO_MUCH = 10000;

        private final Tape tape;
        private final Archive archive;
        private final Archive before;
        /** The token at hand: what it is, where it begins and ends, and its worth as a number. */
        private int token;
        private int start;
        private int end;
        private int worth;

        TextReader(Tape itsTape, Archive itsArchive) {
            tape = itsTape;
            archive = itsArchive;
            before = new Archive();
        }

        /** How many items came, or -1 less the place of the fault; then the archive is as before. */
        int readArchive() {
            before.become(archive);
            end = 0;
            step();
            int items = 0;
            while (items <= MOST_BYTES && readItem()) {
                items++;
                if (token == END) {
                    return items;
                }
                if (token != SIGN) {
                    break;
                }
                step();
            }
            archive.become(before);
            return -1 - start;
        }

        /** Reads one item; where it can't, the token at hand is the one that is at fault. */
        private boolean readItem() {
            if (isWord("slack")) {
                step();
                return readSlack();
            }
            if (isWord("look")) {
                step();
                return readLook();
            }
            int kind = kindNamed();
            if (kind == NOBODY) {
                return false;
            }
            int p = archive.hang(kind, 0L);
            if (p == NOBODY) {
                return false;
            }
            step();
            return readPrint(archive.prints[p]);
        }

        private boolean readSlack() {
            if (!isNumber(0, MOST_SLACK)) {
                return false;
            }
            archive.slack = worth;
            step();
            return true;
        }

        private boolean readLook() {
            if (!isNumber(0, archive.size - 1)) {
                return false;
            }
            archive.prints[worth].seen = true;
            step();
            return true;
        }

        private boolean readPrint(Print it) {
            for (int k = 0; k < MOST_PLACES && token == NUMBER; k++) {
                if (!isNumber(0, PLACES - 1) || (it.marks & (1L << worth)) != 0) {
                    return false;
                }
                it.marks |= 1L << worth;
                step();
            }
            if (isWord("width")) {
                step();
                if (!isNumber(1, MOST_WIDTH)) {
                    return false;
                }
                it.width = worth;
                step();
            }
            if (isWord("year")) {
                step();
                if (!isNumber(0, LAST_YEAR)) {
                    return false;
                }
                it.year = worth;
                step();
            }
            if (isWord("seen")) {
                it.seen = true;
                step();
            }
            return true;
        }

        private int kindNamed() {
            if (isWord("print")) {
                return PRINT;
            }
            if (isWord("burnt")) {
                return BURNT;
            }
            if (isWord("cast")) {
                return CAST;
            }
            if (isWord("forged")) {
                return FORGED;
            }
            if (isWord("recut")) {
                return RECUT;
            }
            return isWord("melted") ? MELTED : NOBODY;
        }

        private boolean isNumber(int least, int greatest) {
            return token == NUMBER && worth >= least && worth <= greatest;
        }

        private boolean isWord(String word) {
            if (token != WORD || end - start != word.length()) {
                return false;
            }
            for (int k = 0; k < word.length(); k++) {
                if (tape.at(start + k) != word.charAt(k)) {
                    return false;
                }
            }
            return true;
        }

        /** Goes on to the next token. */
        private void step() {
            start = end;
            while (start < tape.size && tape.at(start) == ' ') {
                start++;
            }
            end = start;
            worth = 0;
            int b = tape.at(start);
            if (b == -1) {
                token = END;
            } else if (isLetter(b)) {
                token = WORD;
                stepOverLetters();
            } else if (isDigit(b)) {
                token = NUMBER;
                stepOverDigits();
            } else {
                token = b == ';' ? SIGN : NO_TOKEN;
                end++;
            }
        }

        private void stepOverLetters() {
            while (end < tape.size && isLetter(tape.at(end))) {
                end++;
            }
        }

        private void stepOverDigits() {
            while (end < tape.size && isDigit(tape.at(end))) {
                worth = Math.min(10 * worth + tape.at(end) - '0', TOO_MUCH);
                end++;
            }
        }

        private static boolean isLetter(int b) {
            return b >= 'a' && b <= 'z';
        }

        private static boolean isDigit(int b) {
            return b >= '0' && b <= '9';
        }
    }

    /** A row of numbers of 8, 16 or 64 bits, which have a sign as Java's have. */
    static final class Sheet {
        final long[] numbers;
        int bits;
        int size;

        Sheet() {
            numbers = new long[MOST_NUMBERS];
            bits = 0;
            size = 0;
        }

        boolean isMissing() {
            return bits == 0;
        }

        void lay(int itsBits, int itsSize) {
            bits = itsBits;
            size = itsSize;
            for (int i = 0; i < MOST_NUMBERS; i++) {
                numbers[i] = 0L;
            }
        }

        void put(int i, long v) {
            if (i >= 0 && i < size) {
                numbers[i] = lowest(v);
            }
        }

        private long lowest(long v) {
            if (bits == 8) {
                return (byte) v;
            }
            return bits == 16 ? (short) v : v;
        }

        boolean hasRun(int from, int n) {
            return from >= 0 && n >= 0 && from <= size && n <= size - from;
        }
    }
}
