/** The bounds that promises 16 to 25 tell. */
public final class EdgeRingsTest {
    private static final int ALL_TWELVE = 4095;
    private static final Edge EDGE = new Edge("EdgeRingsTest");

    public static void main(String[] args) {
        beyondOthers();
        emptySets();
        setsOfOne();
        setsOfTwelve();
        oneSetBehindAnother();
        promise17And18();
        promise18TheLeast();
        promise19();
        promise20();
        promise21Size();
        promise21NoneToAll();
        promise22I();
        promise22Size();
        promise22None();
        promise23State();
        promise23None();
        promise23SomewhereElse();
        promise24And25Year();
        promise24ThatYearOrAnEarlierOne();
        promise24FromTheLastRecutOn();
        promise25ThatYearOrALaterOne();
        promise25AheadOfTheFirstRecut();
        EDGE.end();
    }

    private static void beyondOthers() {
        EDGE.noSuchSet("16 BEYOND: others", (x, set) -> x.ring(set));
        EDGE.noSuchSet("17 BEYOND", (x, set) -> x.most(set));
        EDGE.noSuchSet("18 BEYOND", (x, set) -> x.best(set));
        EDGE.noSuchSet("19 BEYOND", (x, set) -> x.fewest(set));
        EDGE.noSuchSet("20 BEYOND", (x, set) -> x.alone(set));
        EDGE.noSuchSet("21 BEYOND", (x, set) -> x.orders(set));
        EDGE.noSuchSet("22 BEYOND: set", (x, set) -> x.ith(set, 0));
        EDGE.noSuchSet("22 BEYOND: set", (x, set) -> x.ith(set, 7));
        EDGE.noSuchSet("23 BEYOND", (x, set) -> x.falseDate(set));
        EDGE.noSuchSet("24 BEYOND", (x, set) -> x.had(set, 0));
        EDGE.noSuchSet("24 BEYOND", (x, set) -> x.had(set, 2000));
        EDGE.noSuchSet("25 BEYOND", (x, set) -> x.hadNot(set, 0));
        EDGE.noSuchSet("25 BEYOND", (x, set) -> x.hadNot(set, 2000));
    }

    private static void emptySets() {
        Edge.Maker[] makers = {Samples::empty, Samples::few, Samples::full};
        for (Edge.Maker maker : makers) {
            EDGE.asks("16 an empty one is", 1, maker, x -> x.ring(0));
            EDGE.asks("17 of none", 0, maker, x -> x.most(0));
            EDGE.asks("18 of none", 0, maker, x -> x.best(0));
            EDGE.asks("19 of none", 0, maker, x -> x.fewest(0));
            EDGE.asks("20 of none", 0, maker, x -> x.alone(0));
            EDGE.asks("21 an empty one: 1", 1, maker, x -> x.orders(0));
            EDGE.refused("22 no i-th of none", Check.NONE, maker, x -> x.ith(0, 0));
            EDGE.refused("22 no i-th of none", Check.NONE, maker, x -> x.ith(0, 7));
            EDGE.refused("23 none are OF ONE RING", Check.STATE, maker, x -> x.falseDate(0));
            EDGE.asks("24 of none", 0, maker, x -> x.had(0, 2000));
            EDGE.asks("25 of none", 0, maker, x -> x.hadNot(0, 0));
        }
    }

    private static void setsOfOne() {
        for (int p = 0; p < 12; p++) {
            int print = p;
            int set = 1 << p;
            SealPrints x = Samples.full();
            EDGE.due("16 one alone", x.ring(set), 1);
            EDGE.due("17 one alone", x.most(set), 1);
            EDGE.due("18 one alone", x.best(set), set);
            EDGE.due("19 one alone", x.fewest(set), 1);
            EDGE.due("20 one alone", x.alone(set), set);
            EDGE.due("21 one alone", x.orders(set), 1);
            EDGE.due("22 one alone", x.ith(set, 0), print);
            EDGE.due("22 no second one", x.ith(set, 1), Check.NONE);
            EDGE.due("23 one alone", x.falseDate(set), Check.STATE);
        }
    }

    private static void setsOfTwelve() {
        Edge.Maker alike = () -> Check.withPrints(12);
        EDGE.asks("16 all twelve", 1, alike, x -> x.ring(ALL_TWELVE));
        EDGE.asks("17 all twelve", 12, alike, x -> x.most(ALL_TWELVE));
        EDGE.asks("18 all twelve", ALL_TWELVE, alike, x -> x.best(ALL_TWELVE));
        EDGE.asks("19 all twelve", 1, alike, x -> x.fewest(ALL_TWELVE));
        EDGE.asks("20 all twelve", 0, alike, x -> x.alone(ALL_TWELVE));
        EDGE.refused("23 all twelve", Check.STATE, alike, x -> x.falseDate(ALL_TWELVE));
        EDGE.asks("16 none fit", 0, EdgeRingsTest::apart, x -> x.ring(ALL_TWELVE));
        EDGE.asks("17 none fit", 1, EdgeRingsTest::apart, x -> x.most(ALL_TWELVE));
        EDGE.asks("18 none fit: the least", 1, EdgeRingsTest::apart, x -> x.best(ALL_TWELVE));
        EDGE.asks("19 none fit", 12, EdgeRingsTest::apart, x -> x.fewest(ALL_TWELVE));
        EDGE.asks("20 none fit", ALL_TWELVE, EdgeRingsTest::apart, x -> x.alone(ALL_TWELVE));
        EDGE.refused("23 none fit", Check.NONE, EdgeRingsTest::apart,
                x -> x.falseDate(ALL_TWELVE));
    }

    /** What a larger set came to is nothing to a smaller one that is asked behind it. */
    private static void oneSetBehindAnother() {
        SealPrints x = Check.withPrints(12);
        int[] sets = {ALL_TWELVE, 7, 1, 0, 2048, 3};
        for (int set : sets) {
            int n = Integer.bitCount(set);
            EDGE.due("16 behind another", x.ring(set), 1);
            EDGE.due("17 behind another", x.most(set), n);
            EDGE.due("18 behind another", x.best(set), set);
            EDGE.due("19 behind another", x.fewest(set), Math.min(1, n));
            EDGE.due("20 behind another", x.alone(set), n == 1 ? set : 0);
        }
        EDGE.due("21 eight", x.orders(255), 40320);
        EDGE.due("21 two behind them", x.orders(0b110000000000), 2);
        EDGE.due("22 two behind them", x.ith(0b110000000000, 1), 11);
        EDGE.due("22 no third one", x.ith(0b110000000000, 2), Check.NONE);
    }

    /** Twelve prints of which no two can be of one ring. */
    private static SealPrints apart() {
        return Samples.wide(100, 200, 300, 400, 500, 600, 700, 800, 900, 1000, 1100, 1200);
    }

    private static void promise17And18() {
        for (int p = 0; p < 12; p++) {
            int print = p;
            Edge.Maker oneApart = () -> {
                SealPrints x = Check.withPrints(12);
                x.set(print, 1, 2000);
                return x;
            };
            EDGE.asks("17 all but " + p, 11, oneApart, x -> x.most(ALL_TWELVE));
            EDGE.asks("18 all but " + p, ALL_TWELVE - (1 << p), oneApart,
                    x -> x.best(ALL_TWELVE));
            EDGE.asks("19 all but " + p, 2, oneApart, x -> x.fewest(ALL_TWELVE));
            EDGE.asks("20 " + p + " alone", 1 << p, oneApart, x -> x.alone(ALL_TWELVE));
        }
    }

    private static void promise18TheLeast() {
        Edge.Maker halves = () -> Samples.wide(1000, 2000, 2000, 1000, 1000, 2000);
        EDGE.asks("18 of several the least", 0b011001, halves, x -> x.best(63));
        EDGE.asks("18 of a part of them", 0b100110, halves, x -> x.best(62));
        EDGE.asks("18 of two that do not fit", 0b000001, halves, x -> x.best(3));
        EDGE.asks("18 the least ends lowest", 0b000110, halves, x -> x.best(0b011110));
    }

    private static void promise19() {
        EDGE.asks("19 two that fit", 1, () -> Samples.wide(1000, 1020), x -> x.fewest(3));
        EDGE.asks("19 two that do not", 2, () -> Samples.wide(1000, 1021), x -> x.fewest(3));
        EDGE.asks("19 three, the middle one with either", 2,
                () -> Samples.wide(980, 1000, 1020), x -> x.fewest(7));
        EDGE.asks("19 three, the first with either", 2,
                () -> Samples.wide(1000, 980, 1020), x -> x.fewest(7));
        EDGE.asks("19 not by the first that fits", 2,
                () -> Samples.wide(1020, 1040, 1000, 1060), x -> x.fewest(15));
        EDGE.asks("19 six in pairs", 3, () -> Samples.wide(100, 200, 300, 120, 220, 320),
                x -> x.fewest(63));
        EDGE.asks("19 by years, not by orders", 2, () -> Samples.marked(3, 1), x -> x.fewest(3));
    }

    private static void promise20() {
        Edge.Maker three = () -> Samples.wide(980, 1000, 1020);
        EDGE.asks("20 with none of the others", 0, three, x -> x.alone(7));
        EDGE.asks("20 of the others of the set alone", 5, three, x -> x.alone(5));
        EDGE.asks("20 two that fit", 0, three, x -> x.alone(3));
        EDGE.asks("20 BY YEARS", 3, () -> Samples.marked(3, 1), x -> x.alone(3));
    }

    private static void promise21Size() {
        EDGE.asks("21 eight", 40320, () -> Check.withPrints(12), x -> x.orders(255));
        EDGE.asks("21 the last eight", 40320, () -> Check.withPrints(12), x -> x.orders(0xFF0));
        EDGE.refused("21 SIZE: nine", Check.SIZE, () -> Check.withPrints(12), x -> x.orders(511));
        EDGE.refused("21 SIZE: the last nine", Check.SIZE, () -> Check.withPrints(12),
                x -> x.orders(0xFF8));
        EDGE.refused("21 SIZE: twelve", Check.SIZE, () -> Check.withPrints(12),
                x -> x.orders(ALL_TWELVE));
        EDGE.asks("21 eight are all", 40320, () -> Check.withPrints(8), x -> x.orders(255));
        EDGE.refused("21 SIZE: nine are all", Check.SIZE, () -> Check.withPrints(9),
                x -> x.orders(511));
    }

    private static void promise21NoneToAll() {
        EDGE.asks("21 in none", 0, EdgeRingsTest::apart, x -> x.orders(3));
        EDGE.asks("21 eight in none", 0, EdgeRingsTest::apart, x -> x.orders(255));
        EDGE.asks("21 in one", 1, () -> Samples.marked(1, 3), x -> x.orders(3));
        EDGE.asks("21 in one, whatever YEARS", 1, () -> Samples.marked(3, 1), x -> x.orders(3));
        EDGE.asks("21 in both", 2, () -> Samples.marked(3, 3), x -> x.orders(3));
        EDGE.asks("21 eight in one", 1, EdgeRingsTest::downward, x -> x.orders(255));
    }

    /** Each has a mark less than the one with the number below it, and is of a later year. */
    private static SealPrints downward() {
        return Samples.marked(255, 127, 63, 31, 15, 7, 3, 1);
    }

    private static void promise22I() {
        for (int i = 0; i < 8; i++) {
            int at = i;
            EDGE.asks("22 i " + i, 7 - i, EdgeRingsTest::downward, x -> x.ith(255, at));
        }
        EDGE.beyond("22 BEYOND: i", EdgeRingsTest::downward, (x, i) -> x.ith(255, i), -1, 8, 9,
                32, Edge.LEAST, Edge.GREATEST);
        EDGE.beyond("22 BEYOND: i, of none", Samples::empty, (x, i) -> x.ith(0, i), -1, 8,
                Edge.LEAST, Edge.GREATEST);
    }

    private static void promise22Size() {
        for (int i = 0; i < 8; i++) {
            int at = i;
            EDGE.asks("22 eight of twelve", 4 + i, () -> Check.withPrints(12),
                    x -> x.ith(0xFF0, at));
            EDGE.refused("22 SIZE: nine", Check.SIZE, () -> Check.withPrints(12),
                    x -> x.ith(0xFF8, at));
        }
    }

    private static void promise22None() {
        for (int n = 1; n <= 8; n++) {
            int set = (1 << n) - 1;
            int last = n - 1;
            EDGE.asks("22 the last of " + n, last, () -> Check.withPrints(12),
                    x -> x.ith(set, last));
            if (n < 8) {
                EDGE.refused("22 NONE: no i-th of " + n, Check.NONE, () -> Check.withPrints(12),
                        x -> x.ith(set, last + 1));
            }
        }
        EDGE.refused("22 NONE: no such order", Check.NONE, EdgeRingsTest::apart,
                x -> x.ith(3, 0));
        EDGE.refused("22 NONE: no such order of eight", Check.NONE, EdgeRingsTest::apart,
                x -> x.ith(255, 7));
        EDGE.refused("22 NONE: no such order, though one can lead", Check.NONE,
                () -> Samples.marked(0, 1, 2), x -> x.ith(7, 0));
        EDGE.asks("22 the first by numbers", 0, () -> Samples.marked(1, 3, 1), x -> x.ith(7, 0));
        EDGE.asks("22 and its second", 2, () -> Samples.marked(1, 3, 1), x -> x.ith(7, 1));
    }

    private static void promise23State() {
        EDGE.refused("23 STATE: two of one ring", Check.STATE, () -> Samples.marked(1, 3),
                x -> x.falseDate(3));
        EDGE.asks("23 two that are not: the least", 0, () -> Samples.marked(3, 1),
                x -> x.falseDate(3));
        EDGE.refused("23 STATE: of one year by numbers", Check.STATE,
                () -> Samples.two(0, 1, 0, 3), x -> x.falseDate(3));
        EDGE.asks("23 of one year by numbers", 0, () -> Samples.two(0, 3, 0, 1),
                x -> x.falseDate(3));
    }

    private static void promise23None() {
        EDGE.refused("23 NONE: two that fit in no order", Check.NONE, () -> Samples.marked(1, 2),
                x -> x.falseDate(3));
        EDGE.refused("23 NONE: two false dates", Check.NONE, () -> Samples.marked(7, 3, 1),
                x -> x.falseDate(7));
        EDGE.refused("23 NONE: by widths", Check.NONE, () -> Samples.wide(1000, 1021),
                x -> x.falseDate(3));
        EDGE.refused("23 NONE: the others are a ROW, but it fits nowhere", Check.NONE,
                () -> Samples.marked(1, 3, 7, 5), x -> x.falseDate(15));
        EDGE.refused("23 NONE: nor at the end", Check.NONE,
                () -> Samples.marked(8, 1, 3, 7), x -> x.falseDate(15));
        EDGE.asks("23 an order, by one date", 2, () -> Samples.marked(3, 7, 1),
                x -> x.falseDate(7));
    }

    /** A chain of twelve, each with a mark more; one of them is brought to another end. */
    private static SealPrints chain(int print, int year) {
        long[] marks = new long[12];
        for (int p = 0; p < 12; p++) {
            marks[p] = (1L << p) - 1;
        }
        SealPrints x = Samples.marked(marks);
        x.set(print, 2, year);
        return x;
    }

    private static void promise23SomewhereElse() {
        EDGE.asks("23 to the front", 0, () -> chain(0, 2000), x -> x.falseDate(ALL_TWELVE));
        EDGE.asks("23 to the end", 11, () -> chain(11, 0), x -> x.falseDate(ALL_TWELVE));
        for (int p = 1; p < 11; p++) {
            int print = p;
            // Ahead of 0 alone, either of the two may be the false one.
            EDGE.asks("23 from the front into the middle", p == 1 ? 0 : p, () -> chain(print, 0),
                    x -> x.falseDate(ALL_TWELVE));
            EDGE.asks("23 from the end into the middle", p, () -> chain(print, 2000),
                    x -> x.falseDate(ALL_TWELVE));
        }
    }

    private static void promise24And25Year() {
        int[] none = {-1, 2001, 2002, 65536, Edge.LEAST, Edge.GREATEST};
        EDGE.beyond("24 BEYOND: YEAR", Samples::few, (x, year) -> x.had(7, year), none);
        EDGE.beyond("24 BEYOND: YEAR, of none", Samples::empty, (x, year) -> x.had(0, year), none);
        EDGE.beyond("25 BEYOND: YEAR", Samples::few, (x, year) -> x.hadNot(7, year), none);
        EDGE.beyond("25 BEYOND: YEAR, of none", Samples::empty, (x, year) -> x.hadNot(0, year),
                none);
        Edge.Maker ends = () -> {
            SealPrints x = Samples.two(0, 1, 0, 2);
            x.set(1, 2, 2000);
            return x;
        };
        EDGE.asks("24 YEAR 0", 1, ends, x -> x.had(3, 0));
        EDGE.asks("24 YEAR 1999", 1, ends, x -> x.had(3, 1999));
        EDGE.asks("24 YEAR 2000", 3, ends, x -> x.had(3, 2000));
        EDGE.asks("25 YEAR 0", 0x3FFFFFFFL, ends, x -> x.hadNot(3, 0));
        EDGE.asks("25 YEAR 1", 0x3FFFFFFDL, ends, x -> x.hadNot(3, 1));
        EDGE.asks("25 YEAR 2000", 0x3FFFFFFDL, ends, x -> x.hadNot(3, 2000));
    }

    private static void promise24ThatYearOrAnEarlierOne() {
        Edge.Maker three = () -> Samples.marked(1, 2, 4);
        EDGE.asks("24 a year ahead of the first", 0, three, x -> x.had(7, 9));
        EDGE.asks("24 the year of the first", 1, three, x -> x.had(7, 10));
        EDGE.asks("24 a year ahead of the second", 1, three, x -> x.had(7, 19));
        EDGE.asks("24 the year of the second", 3, three, x -> x.had(7, 20));
        EDGE.asks("24 a year ahead of the last", 3, three, x -> x.had(7, 29));
        EDGE.asks("24 the year of the last", 7, three, x -> x.had(7, 30));
        EDGE.asks("24 PRINTS of the set alone", 5, three, x -> x.had(5, 2000));
        EDGE.asks("24 what they SHOW alone", 1L << 29,
                () -> Samples.marked(Check.places(29, 30, 39)), x -> x.had(1, 10));
    }

    /** Prints with a mark each, at the place of their number; numbers 1 and 3 are recut ones. */
    private static SealPrints recutTwice(int... years) {
        SealPrints x = Samples.marked(1, 2, 4, 8, 16);
        Samples.setAll(x, 2, years);
        x.turn(1, 4);
        x.turn(3, 4);
        return x;
    }

    private static void promise24FromTheLastRecutOn() {
        Edge.Maker apart = () -> recutTwice(10, 20, 30, 40, 50);
        EDGE.asks("24 ahead of the first recut one", 1, apart, x -> x.had(31, 19));
        EDGE.asks("24 itself, too", 2, apart, x -> x.had(31, 20));
        EDGE.asks("24 and on", 6, apart, x -> x.had(31, 39));
        EDGE.asks("24 the last of two", 8, apart, x -> x.had(31, 40));
        EDGE.asks("24 and on from it", 24, apart, x -> x.had(31, 2000));
        EDGE.asks("24 one that isn't of the set", 22, apart, x -> x.had(0b10110, 2000));
        EDGE.asks("24 neither is of the set", 21, apart, x -> x.had(0b10101, 2000));
        Edge.Maker oneYear = () -> recutTwice(20, 20, 20, 20, 20);
        EDGE.asks("24 of one year by numbers", 24, oneYear, x -> x.had(31, 20));
        EDGE.asks("24 of one year, without the last", 22, oneYear, x -> x.had(23, 20));
        EDGE.asks("24 of one year, a year earlier", 0, oneYear, x -> x.had(31, 19));
        EDGE.asks("24 the last BY YEARS, not by numbers", 0b10111,
                () -> recutTwice(50, 40, 50, 30, 45), x -> x.had(31, 2000));
    }

    private static void promise25ThatYearOrALaterOne() {
        Edge.Maker three = () -> bare(0, 10, 20, 30);
        EDGE.asks("25 the year of the first", 7, three, x -> x.hadNot(7, 10));
        EDGE.asks("25 a year behind the first", 6, three, x -> x.hadNot(7, 11));
        EDGE.asks("25 the year of the second", 6, three, x -> x.hadNot(7, 20));
        EDGE.asks("25 a year behind the second", 4, three, x -> x.hadNot(7, 21));
        EDGE.asks("25 the year of the last", 4, three, x -> x.hadNot(7, 30));
        EDGE.asks("25 a year behind the last", 0, three, x -> x.hadNot(7, 31));
        EDGE.asks("25 PRINTS of the set alone", 5, three, x -> x.hadNot(5, 0));
        EDGE.asks("25 what is hidden isn't told", 0x3FFFFFFFL, () -> Samples.marked(0),
                x -> x.hadNot(1, 10));
    }

    /** Prints looked at, with all marks but that at the place of their number. */
    private static SealPrints bare(int recuts, int... years) {
        SealPrints x = new SealPrints();
        for (int p = 0; p < years.length; p++) {
            x.print((recuts >> p & 1) == 1 ? 4 : 0, ~(1L << p));
            x.set(p, 2, years[p]);
            x.look(p);
        }
        return x;
    }

    private static void promise25AheadOfTheFirstRecut() {
        Edge.Maker apart = () -> bare(0b01010, 10, 20, 30, 40, 50);
        EDGE.asks("25 a year ahead of the first recut one", 0, apart, x -> x.hadNot(31, 19));
        EDGE.asks("25 ahead of it", 1, apart, x -> x.hadNot(31, 10));
        EDGE.asks("25 in its YEAR, which is no later one", 6, apart, x -> x.hadNot(31, 20));
        EDGE.asks("25 a year behind it", 4, apart, x -> x.hadNot(31, 21));
        EDGE.asks("25 a year ahead of the second", 0, apart, x -> x.hadNot(31, 39));
        EDGE.asks("25 in the YEAR of the second", 24, apart, x -> x.hadNot(31, 40));
        EDGE.asks("25 behind both", 16, apart, x -> x.hadNot(31, 41));
        EDGE.asks("25 one that isn't of the set", 0b00101, apart, x -> x.hadNot(0b11101, 0));
        EDGE.asks("25 neither is of the set", 0b10101, apart, x -> x.hadNot(0b10101, 0));
        Edge.Maker oneYear = () -> bare(0b00100, 20, 20, 20, 20, 20);
        EDGE.asks("25 of one later YEAR by numbers", 3, oneYear, x -> x.hadNot(31, 19));
        EDGE.asks("25 of one YEAR, that one", 31, oneYear, x -> x.hadNot(31, 20));
        EDGE.asks("25 the first BY YEARS, not by numbers", 0b10000,
                () -> bare(0b01010, 50, 40, 35, 30, 25), x -> x.hadNot(31, 0));
    }
}
