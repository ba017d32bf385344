/** The bounds that promises 26 to 30 tell. */
public final class EdgeCastsTest {
    private static final Edge EDGE = new Edge("EdgeCastsTest");

    public static void main(String[] args) {
        beyond();
        promise26Widths();
        promise26Years();
        promise26SameMarks();
        promise26OfSeveralTheLeast();
        promise26State();
        promise26None();
        promise27NoneToEleven();
        promise27AsLongAsThereIsOne();
        promise28None();
        promise28NoneThoughSomeFitNoMore();
        promise28OfSeveralTheLeast();
        promise28TheFirstAndTheLast();
        promise29OfSeveralTheLeast();
        promise29EachKind();
        promise30NoneToAll();
        EDGE.end();
    }

    private static void beyond() {
        EDGE.noSuchPrint("26 BEYOND", (x, p) -> x.castOf(p));
        EDGE.noSuchPrint("27 BEYOND", (x, p) -> x.deep(p));
        EDGE.noSuchPrint("29 BEYOND", (x, p) -> x.kind(p));
    }

    /** Print 0 of one width and print 1, a cast, of another. */
    private static SealPrints cast(int from, int its) {
        SealPrints x = Samples.two(0, 5, 2, 5);
        Samples.setAll(x, 1, from, its);
        return x;
    }

    private static void promise26Widths() {
        int[][] can = {{1000, 960}, {1000, 970}, {1000, 980}, {25, 24}, {50, 48}, {50, 49},
            {9999, 9600}, {9999, 9799}};
        int[][] cannot = {{1000, 959}, {1000, 981}, {25, 23}, {25, 25}, {50, 47}, {50, 50},
            {9999, 9599}, {9999, 9800}, {9999, 9999}, {1, 1}, {2, 1}, {24, 23}, {1, 9999}};
        for (int[] w : can) {
            EDGE.asks("26 " + w[1] + " from " + w[0], 0, () -> cast(w[0], w[1]),
                    x -> x.castOf(1));
        }
        for (int[] w : cannot) {
            EDGE.refused("26 NONE: " + w[1] + " from " + w[0], Check.NONE,
                    () -> cast(w[0], w[1]), x -> x.castOf(1));
        }
    }

    private static void promise26Years() {
        int[][] can = {{0, 0}, {0, 1}, {0, 2000}, {2000, 2000}, {1999, 2000}};
        int[][] cannot = {{1, 0}, {2000, 0}, {2000, 1999}};
        for (int[] y : can) {
            EDGE.asks("26 of a YEAR not later: " + y[0] + ", " + y[1], 0,
                    () -> dated(y), x -> x.castOf(1));
        }
        for (int[] y : cannot) {
            EDGE.refused("26 of a later YEAR: " + y[0] + ", " + y[1], Check.NONE,
                    () -> dated(y), x -> x.castOf(1));
        }
    }

    private static SealPrints dated(int[] years) {
        SealPrints x = cast(1000, 970);
        Samples.setAll(x, 2, years);
        return x;
    }

    private static void promise26SameMarks() {
        for (int k = 0; k < 40; k++) {
            int place = k;
            EDGE.refused("26 with other MARKS, at " + k, Check.NONE, () -> {
                SealPrints x = cast(1000, 970);
                x.scratch(0, place, (5L >> place & 1) == 0);
                return x;
            }, x -> x.castOf(1));
        }
        for (long marks : new long[] {0, -1L}) {
            EDGE.asks("26 with the same MARKS", 0, () -> {
                SealPrints x = Samples.two(0, marks, 3, marks);
                x.set(1, 1, 970);
                return x;
            }, x -> x.castOf(1));
        }
    }

    private static void promise26OfSeveralTheLeast() {
        for (int p = 0; p < 12; p++) {
            int cast = p;
            Edge.Maker maker = () -> {
                SealPrints x = Check.withPrints(12);
                x.turn(cast, 2);
                x.set(cast, 1, 970);
                return x;
            };
            EDGE.asks("26 the least but itself", p == 0 ? 1 : 0, maker, x -> x.castOf(cast));
            EDGE.asks("27 once", 1, maker, x -> x.deep(cast));
        }
    }

    private static void promise26State() {
        for (int k = 0; k < 6; k++) {
            int kind = k;
            Edge.Maker maker = () -> {
                SealPrints x = cast(1000, 970);
                x.turn(1, kind);
                return x;
            };
            if (kind == 2 || kind == 3) {
                EDGE.asks("26 a CAST or FORGED one", 0, maker, x -> x.castOf(1));
                EDGE.asks("27 a CAST or FORGED one", 1, maker, x -> x.deep(1));
            } else {
                EDGE.refused("26 STATE: it is no CAST: " + kind, Check.STATE, maker,
                        x -> x.castOf(1));
                EDGE.asks("27 it is no CAST: " + kind, 0, maker, x -> x.deep(1));
            }
        }
        for (int k = 0; k < 6; k++) {
            int kind = k;
            EDGE.asks("26 from one of any kind: " + kind, 0, () -> {
                SealPrints x = cast(1000, 970);
                x.turn(0, kind);
                return x;
            }, x -> x.castOf(1));
        }
    }

    private static void promise26None() {
        Edge.Maker alone = () -> {
            SealPrints x = Check.withPrints(1);
            x.turn(0, 2);
            return x;
        };
        EDGE.refused("26 NONE: there is no other one", Check.NONE, alone, x -> x.castOf(0));
        EDGE.asks("27 there is no other one", 0, alone, x -> x.deep(0));
        EDGE.refused("26 NONE: the other one is as wide", Check.NONE, () -> cast(1000, 1000),
                x -> x.castOf(1));
    }

    /** Each but the first is a cast of the one ahead of it: more there can't be of twelve. */
    private static SealPrints chain() {
        int[] widths = {9999, 9699, 9408, 9126, 8852, 8586, 8328, 8078, 7836, 7601, 7373, 7152};
        SealPrints x = new SealPrints();
        for (int p = 0; p < 12; p++) {
            x.print(p == 0 ? 0 : 2, 3);
        }
        Samples.setAll(x, 1, widths);
        return x;
    }

    private static void promise27NoneToEleven() {
        for (int p = 0; p < 12; p++) {
            int print = p;
            EDGE.asks("27 so many times: " + p, p, EdgeCastsTest::chain, x -> x.deep(print));
        }
        EDGE.asks("27 the first is no CAST but for its KIND", 0, () -> {
            SealPrints x = chain();
            x.turn(0, 2);
            return x;
        }, x -> x.deep(0));
    }

    private static void promise27AsLongAsThereIsOne() {
        for (int p = 1; p < 11; p++) {
            int print = p;
            EDGE.asks("27 as far as to one that is no CAST", 11 - p, () -> {
                SealPrints x = chain();
                x.turn(print, 0);
                return x;
            }, x -> x.deep(11));
            EDGE.asks("27 as far as to one that is from none", 11 - p, () -> {
                SealPrints x = chain();
                Samples.setAll(x, 2, 1, 1, 1, 1, 1, 1, 1, 1, 1, 1, 1, 1);
                x.set(print, 2, 0);
                return x;
            }, x -> x.deep(11));
        }
    }

    private static void promise28None() {
        EDGE.refused("28 NONE: no PRINTS", Check.NONE, Samples::empty, x -> x.tell());
        EDGE.refused("28 NONE: one PRINT", Check.NONE, () -> Check.withPrints(1), x -> x.tell());
        EDGE.refused("28 NONE: twelve alike", Check.NONE, () -> Check.withPrints(12),
                x -> x.tell());
        EDGE.refused("28 NONE: all are SEEN", Check.NONE, () -> {
            SealPrints x = Samples.two(0, Check.places(30), 0, 0);
            x.look(0);
            x.look(1);
            return x;
        }, x -> x.tell());
        EDGE.refused("28 NONE: each alone changes nothing", Check.NONE,
                () -> Samples.two(0, Check.places(30), 0, 0), x -> x.tell());
    }

    private static void promise28NoneThoughSomeFitNoMore() {
        EDGE.refused("28 NONE: it goes to another ring", Check.NONE, () -> {
            SealPrints x = Samples.two(0, Check.places(30), 0, 0);
            x.print(0, 0);
            x.look(0);
            x.look(2);
            return x;
        }, x -> x.tell());
        // 0 fits with 2 or with 3 as long as these are not seen, 1 with both, and 2 not with 3:
        // one look parts 0 from one of them, and two looks were needed for a third ring.
        EDGE.refused("28 NONE: each look is for itself alone", Check.NONE, () -> {
            SealPrints x = Samples.two(0, Check.places(30), 0, 0);
            x.print(0, Check.places(1));
            x.print(0, Check.places(2));
            x.look(0);
            x.look(1);
            return x;
        }, x -> x.tell());
    }

    private static void promise28OfSeveralTheLeast() {
        for (int p = 1; p < 12; p++) {
            int seenUpTo = p;
            Edge.Maker maker = () -> {
                SealPrints x = new SealPrints();
                for (int q = 0; q < 12; q++) {
                    x.print(0, q < seenUpTo ? Check.places(39) : 0);
                }
                for (int q = 0; q < seenUpTo; q++) {
                    x.look(q);
                }
                return x;
            };
            EDGE.asks("28 of several the least: " + p, p, maker, x -> x.tell());
        }
    }

    private static void promise28TheFirstAndTheLast() {
        Edge.Maker first = () -> {
            SealPrints x = Samples.two(0, Check.places(30), 0, 0);
            x.look(1);
            return x;
        };
        EDGE.asks("28 the first, by its own mark", 0, first, x -> x.tell());
        EDGE.asks("28 at the last place", 0, () -> {
            SealPrints x = Samples.two(0, Check.places(39), 0, 0);
            x.look(1);
            return x;
        }, x -> x.tell());
        EDGE.refused("28 NONE: the last place that is told anyway", Check.NONE, () -> {
            SealPrints x = Samples.two(0, Check.places(29), 0, 0);
            x.look(1);
            return x;
        }, x -> x.tell());
    }

    private static void promise29OfSeveralTheLeast() {
        EDGE.asks("29 alone", 0, () -> Check.withPrints(1), x -> x.kind(0));
        EDGE.asks("29 it fits as none", 0, () -> Samples.wide(9999, 1), x -> x.kind(0));
        EDGE.asks("29 as PRINT or RECUT", 0, () -> Samples.wide(1000, 1000), x -> x.kind(1));
        EDGE.asks("29 as RECUT alone", 4, () -> Samples.two(0, 1, 0, 0), x -> x.kind(1));
        EDGE.asks("29 as BURNT, RECUT or MELTED", 1, () -> Samples.two(0, 2, 0, 0),
                x -> x.kind(1));
        EDGE.asks("29 as MELTED alone", 5, () -> Samples.two(0, Check.places(20), 0, 0),
                x -> x.kind(0));
        for (int p = 0; p < 12; p++) {
            int print = p;
            EDGE.asks("29 all alike", 0, () -> Check.withPrints(12), x -> x.kind(print));
        }
    }

    private static void promise29EachKind() {
        int[][] byWidths = {{1000, 0}, {900, 1}, {970, 2}, {961, 3}, {720, 5}};
        for (int[] w : byWidths) {
            for (int k = 0; k < 6; k++) {
                int kind = k;
                Edge.Maker maker = () -> {
                    SealPrints x = Check.withPrints(12);
                    x.slack(0);
                    x.turn(11, kind);
                    x.set(11, 1, w[0]);
                    return x;
                };
                EDGE.asks("29 width " + w[0] + " of kind " + k, w[1], maker, x -> x.kind(11));
            }
        }
    }

    private static void promise30NoneToAll() {
        EDGE.asks("30 no PRINTS", 0, Samples::empty, y -> y.pairs());
        EDGE.asks("30 one", 0, () -> Check.withPrints(1), y -> y.pairs());
        EDGE.asks("30 two that fit", 1, () -> Samples.wide(1000, 1020), y -> y.pairs());
        EDGE.asks("30 two that do not", 0, () -> Samples.wide(1000, 1021), y -> y.pairs());
        EDGE.asks("30 twelve that fit", 66, () -> Check.withPrints(12), y -> y.pairs());
        SealPrints x = Check.withPrints(2);
        x.image();
        for (int p = 2; p < 12; p++) {
            x.print(0, 0);
        }
        EDGE.due("30 twelve", x.pairs(), 66);
        x.undo();
        EDGE.due("30 those that are gone do not count", x.pairs(), 1);
        EDGE.asks("30 BY YEARS they do not", 0, () -> Samples.marked(3, 1), y -> y.pairs());
        EDGE.asks("30 the ends do not", 2, () -> Samples.wide(980, 1000, 1020), y -> y.pairs());
    }
}
