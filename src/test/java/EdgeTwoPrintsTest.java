/** The bounds that promises 11 to 15 tell. */
public final class EdgeTwoPrintsTest {
    private static final Edge EDGE = new Edge("EdgeTwoPrintsTest");

    /** A call that goes by two prints. */
    private interface OfTwo {
        long on(SealPrints x, int one, int other);
    }

    public static void main(String[] args) {
        beyondLikewise("11", (x, a, b) -> x.ahead(a, b));
        beyondLikewise("12", (x, a, b) -> x.order(a, b));
        beyondLikewise("13", (x, a, b) -> x.alike(a, b));
        beyondLikewise("14", (x, a, b) -> x.slackFor(a, b));
        beyondLikewise("15", (x, a, b) -> x.came(a, b));
        theFirstAndTheLast();
        promise12EachAnswer();
        promise13NoneToAll();
        promise14Least();
        promise14None();
        promise15NoneToAll();
        promise15State();
        EDGE.end();
    }

    private static void beyondLikewise(String promise, OfTwo call) {
        String what = promise + " BEYOND";
        EDGE.noSuchPrint(what + ": the first", (x, p) -> call.on(x, p, 0));
        EDGE.noSuchPrint(what + ": the other one", (x, p) -> call.on(x, 0, p));
        EDGE.noSuchPrint(what + ": both", (x, p) -> call.on(x, p, p));
        EDGE.beyond(what + " (one and the same)", Samples::few, (x, p) -> call.on(x, p, p),
                0, 1, 2);
        EDGE.beyond(what + " (one and the same)", Samples::full, (x, p) -> call.on(x, p, p),
                0, 11);
        EDGE.refused(what + " (there is one alone)", Check.BEYOND, () -> Check.withPrints(1),
                x -> call.on(x, 0, 0));
        EDGE.refused(what + " (there is one alone)", Check.BEYOND, () -> Check.withPrints(1),
                x -> call.on(x, 0, 1));
    }

    private static void theFirstAndTheLast() {
        Edge.Maker twelve = () -> Check.withPrints(12);
        EDGE.asks("11 the first and the last", 1, twelve, x -> x.ahead(0, 11));
        EDGE.asks("11 the last and the first", 1, twelve, x -> x.ahead(11, 0));
        EDGE.asks("12 the first and the last", 3, twelve, x -> x.order(0, 11));
        EDGE.asks("13 the first and the last", 30, twelve, x -> x.alike(11, 0));
        EDGE.asks("14 the first and the last", 0, twelve, x -> x.slackFor(0, 11));
        EDGE.asks("15 the first and the last", 0, twelve, x -> x.came(11, 0));
    }

    private static void promise12EachAnswer() {
        EDGE.asks("12 in none", 0, () -> Samples.two(0, 1, 0, 2), x -> x.order(0, 1));
        EDGE.asks("12 the first ahead alone", 1, () -> Samples.two(0, 1, 0, 3),
                x -> x.order(0, 1));
        EDGE.asks("12 the other one ahead alone", 2, () -> Samples.two(0, 1, 0, 3),
                x -> x.order(1, 0));
        EDGE.asks("12 in both", 3, () -> Samples.two(0, 3, 0, 3), x -> x.order(0, 1));
        EDGE.asks("11 it can", 1, () -> Samples.two(0, 1, 0, 3), x -> x.ahead(0, 1));
        EDGE.asks("11 it can't", 0, () -> Samples.two(0, 1, 0, 3), x -> x.ahead(1, 0));
    }

    private static void promise13NoneToAll() {
        EDGE.asks("13 at none", 0, () -> Samples.two(0, -1L, 0, 0), x -> x.alike(0, 1));
        EDGE.asks("13 at 30, all marks", 30, () -> Samples.two(0, -1L, 0, -1L),
                x -> x.alike(0, 1));
        EDGE.asks("13 at 30, none", 30, () -> Samples.two(0, 0, 0, 0), x -> x.alike(0, 1));
        EDGE.asks("13 at 40, all marks", 40, () -> bothSeen(-1L, -1L), x -> x.alike(0, 1));
        EDGE.asks("13 at 40, none", 40, () -> bothSeen(0, 0), x -> x.alike(0, 1));
        EDGE.asks("13 hidden by one", 30, () -> oneSeen(-1L, -1L), x -> x.alike(0, 1));
        EDGE.asks("13 hidden by the other one", 30, () -> oneSeen(-1L, -1L), x -> x.alike(1, 0));
        for (int k = 0; k < 40; k++) {
            long mark = 1L << k;
            EDGE.due("13 unlike at " + k, bothSeen(mark, 0).alike(0, 1), 39);
            EDGE.due("13 one SHOWS what the other HIDES, at " + k, oneSeen(mark, mark).alike(0, 1),
                    30);
        }
    }

    private static SealPrints oneSeen(long marksA, long marksB) {
        SealPrints x = Samples.two(0, marksA, 0, marksB);
        x.look(0);
        return x;
    }

    private static SealPrints bothSeen(long marksA, long marksB) {
        SealPrints x = oneSeen(marksA, marksB);
        x.look(1);
        return x;
    }

    private static void promise14Least() {
        for (int gap : new int[] {0, 1, 20, 21, 998, 999}) {
            SealPrints x = EDGE.acts("14 unlike by " + gap, gap, () -> Samples.wide(1, 1 + gap),
                    y -> y.slackFor(0, 1));
            EDGE.asks("14 the other one is the narrower", gap, () -> Samples.wide(1 + gap, 1),
                    y -> y.slackFor(0, 1));
            x.slack(gap);
            EDGE.due("14 with it they CAN BE", x.order(0, 1), 3);
            x.slack(Math.max(0, gap - 1));
            EDGE.due("14 with one less they can't", x.order(0, 1), gap == 0 ? 3 : 0);
        }
        EDGE.asks("14 in one order alone", 0, () -> Samples.two(0, 1, 0, 3),
                x -> x.slackFor(0, 1));
        EDGE.asks("14 in the other order alone", 0, () -> Samples.two(0, 3, 0, 1),
                x -> x.slackFor(0, 1));
    }

    private static void promise14None() {
        EDGE.refused("14 NONE: unlike by 1000", Check.NONE, () -> Samples.wide(1, 1001),
                x -> x.slackFor(0, 1));
        EDGE.refused("14 NONE: unlike by 1000", Check.NONE, () -> Samples.wide(1001, 1),
                x -> x.slackFor(0, 1));
        EDGE.refused("14 NONE: as unlike as can be", Check.NONE, () -> Samples.wide(1, 9999),
                x -> x.slackFor(0, 1));
        EDGE.refused("14 NONE: by marks", Check.NONE, () -> Samples.two(0, 1, 0, 2),
                x -> x.slackFor(0, 1));
        EDGE.refused("14 NONE: by marks, a recut one is no way out for another", Check.NONE,
                () -> Samples.two(0, 1, 3, 2), x -> x.slackFor(0, 1));
        EDGE.asks("14 a recut one behind", 0, () -> Samples.two(0, 1, 4, 2),
                x -> x.slackFor(1, 0));
    }

    private static void promise15NoneToAll() {
        EDGE.asks("15 none", 0, () -> bothSeen(-1L, -1L), x -> x.came(0, 1));
        EDGE.asks("15 all", 40, () -> bothSeen(0, -1L), x -> x.came(0, 1));
        for (int k = 0; k < 40; k++) {
            long mark = 1L << k;
            EDGE.due("15 one at " + k, bothSeen(0, mark).came(0, 1), 1);
            EDGE.due("15 the first HIDES it, at " + k, oneSeen(mark, 0).came(1, 0),
                    k < 30 ? 1 : 0);
            EDGE.due("15 the other one HIDES it, at " + k, oneSeen(0, mark).came(0, 1),
                    k < 30 ? 1 : 0);
        }
    }

    private static void promise15State() {
        EDGE.refused("15 STATE: by marks", Check.STATE, () -> Samples.two(0, 3, 0, 1),
                x -> x.came(0, 1));
        EDGE.asks("15 the other way it can be", 1, () -> Samples.two(0, 3, 0, 1),
                x -> x.came(1, 0));
        EDGE.asks("15 unlike by SLACK", 0, () -> Samples.wide(1000, 1020), x -> x.came(0, 1));
        EDGE.refused("15 STATE: unlike by one more", Check.STATE, () -> Samples.wide(1000, 1021),
                x -> x.came(0, 1));
        EDGE.refused("15 STATE: unlike by one more", Check.STATE, () -> Samples.wide(1021, 1000),
                x -> x.came(0, 1));
    }
}
