import java.util.Random;

/** Long runs of calls of every kind, each answer held against that of the slow model. */
public final class ModelTest {
    private static final int RUNS = 400;
    private static final int CALLS = 512;
    private static final int ACTS = 43;
    private static final String[] WORDS = {"print", "burnt", "cast", "forged", "recut", "melted",
        "width", "year", "seen", "slack", "look", ";", ";", " ", " ", "  ", "#", "prints", "a"};
    private static final Check CHECK = new Check("ModelTest");

    private final Random random;
    private final SealPrints x = new SealPrints();
    private final Model m = new Model();
    /** How far marks, years and widths lie apart: few of each make many prints fit. */
    private final int spread;
    private int prints;
    private int calls;

    private ModelTest(int seed) {
        random = new Random(seed);
        spread = seed % 4;
    }

    public static void main(String[] args) {
        for (int seed = 0; seed < RUNS; seed++) {
            new ModelTest(seed).run(seed);
        }
        CHECK.end();
    }

    private void run(int seed) {
        int begun = random.nextInt(13);
        for (int p = 0; p < begun; p++) {
            same("print", seed, act(0));
        }
        while (calls < CALLS) {
            int act = random.nextInt(ACTS);
            // What takes prints back or turns all at once is asked more seldom.
            if (act == 39 && random.nextInt(3) > 0) {
                continue;
            }
            same("act " + act, seed, act(act));
        }
    }

    private void same(String what, int seed, long[] both) {
        calls++;
        prints = x.count(0);
        CHECK.due(what + " in run " + seed + ", call " + calls, both[0], both[1]);
        CHECK.due("count(0)", prints, m.count(0));
    }

    private static long[] pair(long got, long want) {
        return new long[] {got, want};
    }

    private boolean seldom() {
        return random.nextInt(25) == 0;
    }

    private int anyInt() {
        int[] odd = {Integer.MIN_VALUE, Integer.MAX_VALUE, -1, 0, 1, 12, 13, 40, 41, 64, 999, 1000,
            2000, 2001, 9999, 10000, -1000000001};
        return random.nextBoolean() ? odd[random.nextInt(odd.length)] : random.nextInt();
    }

    private int upTo(int n) {
        return seldom() ? anyInt() : random.nextInt(n + 1);
    }

    private int p() {
        return seldom() ? anyInt() : random.nextInt(Math.max(1, prints));
    }

    private int sets() {
        return seldom() ? anyInt() : random.nextInt(1 << prints);
    }

    private int smallSet() {
        int set = sets();
        for (int k = 0; k < 40 && Integer.bitCount(set) > 6 && random.nextInt(20) > 0; k++) {
            set &= ~(1 << random.nextInt(prints + 1));
        }
        return set;
    }

    private int year() {
        return seldom() ? anyInt() : random.nextInt(spread == 0 ? 3 : spread == 1 ? 12 : 2001);
    }

    private int width() {
        int[] likely = {1000, 900, 970, 960, 720, 1000, 1010, 941, 980};
        return seldom() ? anyInt() : spread == 3 ? 1 + random.nextInt(9999)
                : likely[random.nextInt(likely.length)];
    }

    private long marks() {
        long places = 0;
        int n = random.nextInt(3 + spread);
        for (int k = 0; k < n; k++) {
            places |= 1L << random.nextInt(spread == 0 ? 4 : 40);
        }
        return seldom() ? random.nextLong() : places;
    }

    private long number() {
        switch (random.nextInt(4)) {
            case 0:
                return random.nextLong();
            case 1:
                return random.nextInt(2100) - 20;
            default:
                return random.nextInt(prints + 1);
        }
    }

    private String telling() {
        StringBuilder text = new StringBuilder();
        int items = 1 + random.nextInt(4);
        for (int k = 0; k < items; k++) {
            text.append(k == 0 ? "" : random.nextBoolean() ? ";" : " ; ").append(item());
        }
        int changes = random.nextInt(3) == 0 ? 1 + random.nextInt(2) : 0;
        for (int k = 0; k < changes; k++) {
            int at = random.nextInt(text.length() + 1);
            switch (random.nextInt(3)) {
                case 0:
                    text.setLength(at);
                    break;
                case 1:
                    text.insert(at, WORDS[random.nextInt(WORDS.length)]);
                    break;
                default:
                    text.insert(at, random.nextInt(50));
                    break;
            }
        }
        return text.toString();
    }

    private String item() {
        int which = random.nextInt(8);
        if (which == 6) {
            return "slack " + upTo(200);
        }
        if (which == 7) {
            return "look " + random.nextInt(prints + 2);
        }
        StringBuilder item = new StringBuilder(WORDS[which]);
        int places = random.nextInt(3) > 0 ? random.nextInt(4) : random.nextInt(10);
        for (int k = 0; k < places; k++) {
            item.append(' ').append(upTo(40));
        }
        if (random.nextInt(3) == 0) {
            item.append(" width ").append(width());
        }
        if (random.nextInt(3) == 0) {
            item.append(" year ").append(year());
        }
        return item.append(random.nextInt(3) == 0 ? " seen" : "").toString();
    }

    private long[] text() {
        if (random.nextInt(4) > 0) {
            m.wipe();
            x.wipe();
        }
        String text = telling();
        for (int i = 0; i < text.length(); i++) {
            long want = m.feed(text.charAt(i), 1);
            CHECK.due("feed", x.feed(text.charAt(i), 1), want);
        }
        return pair(x.text(), m.text());
    }

    private long[] act(int act) {
        if (act < 9) {
            return actOnPrint(act);
        }
        if (act < 24) {
            return actOnSets(act);
        }
        return act < 38 ? actOnSheets(act) : actOnAll(act);
    }

    private long[] actOnPrint(int act) {
        int p = p();
        int k = upTo(6);
        switch (act) {
            case 0:
                long marks = marks();
                k = seldom() ? anyInt() : random.nextInt(6);
                return pair(x.print(k, marks), m.print(k, marks));
            case 1:
                return pair(x.of(p, k), m.of(p, k));
            case 2:
                k = upTo(2);
                return pair(x.marks(p, k), m.marks(p, k));
            case 3:
                k = seldom() ? anyInt() : 1 + random.nextInt(2);
                int v = k == 1 ? width() : year();
                return pair(x.set(p, k, v), m.set(p, k, v));
            case 4:
                boolean is = random.nextBoolean();
                k = upTo(spread == 0 ? 3 : 39);
                return pair(x.scratch(p, k, is), m.scratch(p, k, is));
            case 5:
                return pair(x.look(p), m.look(p));
            case 6:
                return pair(x.turn(p, k), m.turn(p, k));
            case 7:
                return pair(x.as(p, k), m.as(p, k));
            default:
                k = random.nextBoolean() ? upTo(200) : 20;
                return pair(x.slack(k), m.slack(k));
        }
    }

    private long[] actOnSets(int act) {
        int p = p();
        int q = p();
        int set = sets();
        int small = smallSet();
        int year = year();
        int i = upTo(8);
        switch (act) {
            case 9:
                return pair(x.ahead(p, q), m.ahead(p, q));
            case 10:
                return pair(x.order(p, q), m.order(p, q));
            case 11:
                return pair(x.alike(p, q), m.alike(p, q));
            case 12:
                return pair(x.slackFor(p, q), m.slackFor(p, q));
            case 13:
                return pair(x.came(p, q), m.came(p, q));
            case 14:
                return pair(x.ring(small), m.ring(small));
            case 15:
                return pair(x.most(set), m.most(set));
            case 16:
                return pair(x.best(set), m.best(set));
            case 17:
                return pair(x.fewest(set), m.fewest(set));
            case 18:
                return pair(x.alone(small), m.alone(small));
            case 19:
                return pair(x.orders(small), m.orders(small));
            case 20:
                return pair(x.ith(small, i), m.ith(small, i));
            case 21:
                return pair(x.falseDate(small), m.falseDate(small));
            case 22:
                return pair(x.had(set, year), m.had(set, year));
            default:
                return pair(x.hadNot(set, year), m.hadNot(set, year));
        }
    }

    private long[] actOnSheets(int act) {
        int p = p();
        int s = upTo(3);
        int t = upTo(3);
        int n = upTo(6);
        int i = upTo(4);
        int k = upTo(4);
        switch (act) {
            case 24:
                return pair(x.castOf(p), m.castOf(p));
            case 25:
                return pair(x.deep(p), m.deep(p));
            case 26:
                return random.nextInt(4) > 0 ? pair(x.pairs(), m.pairs())
                        : pair(x.tell(), m.tell());
            case 27:
                return pair(x.kind(p), m.kind(p));
            case 28:
                return pair(x.pairs(), m.pairs());
            case 29:
                int bytes = anyInt();
                return pair(x.feed(bytes, n), m.feed(bytes, n));
            case 30:
                return pair(x.wipe(), m.wipe());
            case 31:
                return text();
            case 32:
                int[] may = {8, 16, 64, 64, 8, 16, 0, 32};
                int bits = may[random.nextInt(may.length)];
                n = random.nextInt(4) == 0 ? upTo(42) : n;
                return pair(x.sheet(s, bits, n), m.sheet(s, bits, n));
            case 33:
                long v = number();
                return pair(x.write(s, i, v), m.write(s, i, v));
            case 34:
                return pair(x.copy(s, i, t, k, n), m.copy(s, i, t, k, n));
            case 35:
                return pair(x.dates(s), m.dates(s));
            case 36:
                return pair(x.show(s), m.show(s));
            default:
                return pair(x.read(s), m.read(s));
        }
    }

    private long[] actOnAll(int act) {
        int k = upTo(7) - 1;
        switch (act) {
            case 38:
                return pair(x.image(), m.image());
            case 39:
                return pair(x.undo(), m.undo());
            case 40:
                return random.nextInt(5) == 0 ? pair(x.tear(), m.tear())
                        : pair(x.status(-1), m.status(-1));
            case 41:
                return pair(x.count(k), m.count(k));
            default:
                return pair(x.status(k), m.status(k));
        }
    }
}
