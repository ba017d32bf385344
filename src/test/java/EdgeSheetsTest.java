import java.util.Arrays;

/** The bounds that promises 34 to 39 tell. */
public final class EdgeSheetsTest {
    private static final int LEAST = Edge.LEAST;
    private static final int GREATEST = Edge.GREATEST;
    private static final Edge EDGE = new Edge("EdgeSheetsTest");

    public static void main(String[] args) {
        promise34SheetAndBits();
        promise34N();
        promise34All0();
        promise34Missing();
        promise35Sheet();
        promise35Number();
        promise35LowestBits();
        promise36Sheets();
        promise36Missing();
        promise36Kind();
        promise36From();
        promise36To();
        promise36N();
        promise36AsTheyAllWere();
        promise37Sheet();
        promise37Years();
        promise37StandForNone();
        promise38Sheet();
        promise38AsFarAsItHasNumbers();
        promise38AsLongs();
        promise39Sheet();
        promise39NoPrint();
        promise39CameAlready();
        promise39CantBe();
        promise39NoneToForty();
        EDGE.end();
    }

    /** As few(), with this sheet 0. */
    private static Edge.Maker with(int bits, long... numbers) {
        return () -> {
            SealPrints x = Samples.few();
            Samples.lay(x, 0, bits, numbers);
            return x;
        };
    }

    private static String numbers(SealPrints x, int s, int n) {
        StringBuilder all = new StringBuilder();
        for (int i = 0; i < n; i++) {
            all.append(i == 0 ? "" : " ").append(x.write(s, i, 0));
        }
        return all.toString();
    }

    private static void same(String what, String got, String want) {
        EDGE.due(what + ": '" + got + "', due is '" + want + "'", got.equals(want) ? 1 : 0, 1);
    }

    private static void promise34SheetAndBits() {
        int[] bits = {8, 16, 64};
        for (int b : bits) {
            for (int s = 0; s < 4; s++) {
                int sheet = s;
                EDGE.acts("34 sheet " + s + " of " + b + " bits", 5, Samples::few,
                        x -> x.sheet(sheet, b, 5));
            }
            EDGE.noSuchSheet("34 BEYOND: no such sheet", (x, s) -> x.sheet(s, b, 5));
        }
        EDGE.noSuchSheet("34 BEYOND: no such sheet, bits 0", (x, s) -> x.sheet(s, 0, 0));
        for (int s : new int[] {0, 3}) {
            EDGE.beyond("34 BEYOND: other bits", Samples::few, (x, b) -> x.sheet(s, b, 5), -1, 1,
                    7, 9, 15, 17, 24, 32, 63, 65, 128, -8, -64, 256, 264, LEAST, GREATEST);
        }
    }

    private static void promise34N() {
        for (int b : new int[] {0, 8, 16, 64}) {
            for (int n : new int[] {0, 1, 39, 40}) {
                EDGE.acts("34 n " + n + " of " + b + " bits", b == 0 ? 0 : n, Samples::few,
                        x -> x.sheet(2, b, n));
            }
            for (int n : new int[] {-1, -2, -40, LEAST}) {
                EDGE.refused("34 SIZE: n " + n + " of " + b + " bits", Check.SIZE, Samples::few,
                        x -> x.sheet(2, b, n));
            }
            EDGE.beyond("34 BEYOND: n of " + b + " bits", Samples::few, (x, n) -> x.sheet(2, b, n),
                    41, 42, 64, 256, GREATEST);
        }
        SealPrints x = Samples.few();
        x.sheet(0, 8, 40);
        EDGE.due("34 the last of 40", x.write(0, 39, 1), 0);
        EDGE.due("34 no 41st", x.write(0, 40, 1), Check.BEYOND);
    }

    private static void promise34All0() {
        for (int b : new int[] {8, 16, 64}) {
            SealPrints x = Samples.few();
            x.sheet(2, b, 40);
            for (int i = 0; i < 40; i++) {
                EDGE.due("34 all 0", x.write(2, i, -1), 0);
            }
            x.sheet(2, b, 3);
            x.sheet(2, b, 40);
            for (int i = 0; i < 40; i++) {
                EDGE.due("34 all 0 again", x.write(2, i, -1), 0);
            }
        }
        SealPrints x = Samples.few();
        x.sheet(2, 64, 4);
        same("34 no other sheet", numbers(x, 0, 3) + ", " + numbers(x, 1, 2), "1 -2 3, 4 300");
    }

    private static void promise34Missing() {
        for (int n : new int[] {0, 4, 40}) {
            SealPrints x = EDGE.acts("34 MISSING", 0, Samples::few, y -> y.sheet(2, 0, n));
            EDGE.due("34 it is MISSING", x.show(2), Check.MISSING);
            EDGE.due("34 laid anew", x.sheet(2, 64, 2), 2);
            same("34 all 0", numbers(x, 2, 2), "0 0");
        }
        EDGE.asks("34 MISSING already", 0, Samples::few, x -> x.sheet(3, 0, 5));
        SealPrints x = EDGE.acts("34 no numbers", 0, Samples::few, y -> y.sheet(2, 64, 0));
        EDGE.due("34 it is not MISSING", x.show(2), 0);
    }

    private static void promise35Sheet() {
        EDGE.noSuchSheet("35 BEYOND: no such sheet", (x, s) -> x.write(s, 0, 1));
        for (int s = 0; s < 4; s++) {
            int sheet = s;
            EDGE.refused("35 MISSING", Check.MISSING, Samples::empty, x -> x.write(sheet, 0, 1));
        }
        EDGE.refused("35 MISSING", Check.MISSING, Samples::few, x -> x.write(3, 0, 1));
    }

    private static void promise35Number() {
        EDGE.acts("35 the first", 1L << 40, Samples::few, x -> x.write(2, 0, 9));
        EDGE.acts("35 the last", 7, Samples::few, x -> x.write(2, 3, 9));
        EDGE.beyond("35 BEYOND: no such number", Samples::few, (x, i) -> x.write(2, i, 9), -1, 4,
                5, 39, 40, 41, -4, 32, 64, LEAST, GREATEST);
        EDGE.beyond("35 BEYOND: there is none", with(64), (x, i) -> x.write(0, i, 9), 0, -1, 1,
                39, 40);
        EDGE.asks("35 one and the same", 6, Samples::few, x -> x.write(2, 2, 6));
        SealPrints x = Samples.few();
        x.write(2, 1, 8);
        same("35 no other number", numbers(x, 2, 4), "1099511627776 8 6 7");
    }

    private static void promise35LowestBits() {
        long[][] of8 = {{127, 127}, {128, -128}, {-128, -128}, {-129, 127}, {255, -1}, {256, 0},
            {257, 1}, {Long.MAX_VALUE, -1}, {Long.MIN_VALUE, 0}};
        long[][] of16 = {{32767, 32767}, {32768, -32768}, {-32768, -32768}, {-32769, 32767},
            {65535, -1}, {65536, 0}, {255, 255}, {Long.MAX_VALUE, -1}, {Long.MIN_VALUE, 0}};
        long[][] of64 = {{Long.MAX_VALUE, Long.MAX_VALUE}, {Long.MIN_VALUE, Long.MIN_VALUE},
            {1L << 32, 1L << 32}, {-1, -1}};
        lowest(8, of8);
        lowest(16, of16);
        lowest(64, of64);
    }

    private static void lowest(int bits, long[][] pairs) {
        for (long[] v : pairs) {
            SealPrints x = with(bits, 5).make();
            EDGE.due("35 what it was", x.write(0, 0, v[0]), 5);
            EDGE.due("35 of " + v[0] + ", " + bits + " bits", x.write(0, 0, 0), v[1]);
        }
    }

    private static void promise36Sheets() {
        EDGE.noSuchSheet("36 BEYOND: from no such sheet", (x, s) -> x.copy(s, 0, 0, 0, 1));
        EDGE.noSuchSheet("36 BEYOND: to no such sheet", (x, s) -> x.copy(0, 0, s, 0, 1));
        EDGE.noSuchSheet("36 BEYOND: both", (x, s) -> x.copy(s, 0, s, 0, 0));
        EDGE.acts("36 the first and the last sheet", 1, EdgeSheetsTest::alike,
                x -> x.copy(0, 0, 3, 0, 1));
        EDGE.acts("36 the last and the first sheet", 1, EdgeSheetsTest::alike,
                x -> x.copy(3, 0, 0, 0, 1));
    }

    /** Sheet 0 has five numbers and sheet 3 has three, of as many bits. */
    private static SealPrints alike() {
        SealPrints x = Samples.few();
        Samples.lay(x, 0, 16, 1, 2, 3, 4, 5);
        Samples.lay(x, 3, 16, 6, 7, 8);
        return x;
    }

    private static void promise36Missing() {
        EDGE.refused("36 MISSING: the first", Check.MISSING, Samples::few,
                x -> x.copy(3, 0, 0, 0, 0));
        EDGE.refused("36 MISSING: the other one", Check.MISSING, Samples::few,
                x -> x.copy(0, 0, 3, 0, 0));
        EDGE.refused("36 MISSING: both", Check.MISSING, Samples::few,
                x -> x.copy(3, 0, 3, 0, 0));
        EDGE.asks("36 with no numbers it isn't MISSING", 0, with(8), x -> x.copy(0, 0, 0, 0, 0));
    }

    private static void promise36Kind() {
        int[][] unlike = {{0, 1}, {1, 0}, {0, 2}, {2, 0}, {1, 2}, {2, 1}};
        for (int[] two : unlike) {
            EDGE.refused("36 KIND: " + two[0] + " to " + two[1], Check.KIND, Samples::few,
                    x -> x.copy(two[0], 0, two[1], 0, 1));
            EDGE.refused("36 KIND, with none", Check.KIND, Samples::few,
                    x -> x.copy(two[0], 0, two[1], 0, 0));
        }
        EDGE.asks("36 to itself", 3, Samples::few, x -> x.copy(0, 0, 0, 0, 3));
    }

    private static void promise36From() {
        SealPrints x = EDGE.acts("36 from the last on", 1, EdgeSheetsTest::alike,
                y -> y.copy(0, 4, 3, 0, 1));
        same("36 it came", numbers(x, 3, 3), "5 7 8");
        EDGE.asks("36 none from behind the last", 0, EdgeSheetsTest::alike,
                y -> y.copy(0, 5, 3, 0, 0));
        EDGE.beyond("36 BEYOND: from, with one", EdgeSheetsTest::alike,
                (y, from) -> y.copy(0, from, 3, 0, 1), -1, 5, 6, 39, 40, LEAST, GREATEST);
        EDGE.beyond("36 BEYOND: from, with three", EdgeSheetsTest::alike,
                (y, from) -> y.copy(0, from, 3, 0, 3), -1, 3, 4, 5, GREATEST, GREATEST - 2);
        EDGE.beyond("36 BEYOND: from, with none", EdgeSheetsTest::alike,
                (y, from) -> y.copy(0, from, 3, 0, 0), -1, 6, 40, LEAST, GREATEST);
    }

    private static void promise36To() {
        SealPrints x = EDGE.acts("36 to the last", 1, EdgeSheetsTest::alike,
                y -> y.copy(0, 0, 3, 2, 1));
        same("36 it came", numbers(x, 3, 3), "6 7 1");
        EDGE.asks("36 none to behind the last", 0, EdgeSheetsTest::alike,
                y -> y.copy(0, 0, 3, 3, 0));
        EDGE.beyond("36 BEYOND: to, with one", EdgeSheetsTest::alike,
                (y, to) -> y.copy(0, 0, 3, to, 1), -1, 3, 4, 39, 40, LEAST, GREATEST);
        EDGE.beyond("36 BEYOND: to, with two", EdgeSheetsTest::alike,
                (y, to) -> y.copy(0, 0, 3, to, 2), -1, 2, 3, GREATEST, GREATEST - 1);
        EDGE.beyond("36 BEYOND: to, with none", EdgeSheetsTest::alike,
                (y, to) -> y.copy(0, 0, 3, to, 0), -1, 4, 40, LEAST, GREATEST);
    }

    private static void promise36N() {
        SealPrints x = EDGE.acts("36 all that the other one has", 3, EdgeSheetsTest::alike,
                y -> y.copy(0, 2, 3, 0, 3));
        same("36 they came", numbers(x, 3, 3), "3 4 5");
        EDGE.asks("36 none", 0, EdgeSheetsTest::alike, y -> y.copy(0, 0, 3, 0, 0));
        EDGE.beyond("36 BEYOND: n, the other one has not so many", EdgeSheetsTest::alike,
                (y, n) -> y.copy(0, 0, 3, 0, n), 4, 5, 40, -1, LEAST, GREATEST);
        EDGE.beyond("36 BEYOND: n, the first has not so many", EdgeSheetsTest::alike,
                (y, n) -> y.copy(3, 0, 0, 0, n), 4, 5, 40, -1, LEAST, GREATEST);
        EDGE.beyond("36 BEYOND: n, from further on", EdgeSheetsTest::alike,
                (y, n) -> y.copy(3, 2, 0, 2, n), 2, 3, -1, -2, LEAST, GREATEST, GREATEST - 1);
        Edge.Maker forty = () -> {
            SealPrints y = new SealPrints();
            y.sheet(0, 64, 40);
            y.sheet(1, 64, 40);
            y.write(0, 39, 77);
            return y;
        };
        x = EDGE.acts("36 all of forty", 40, forty, y -> y.copy(0, 0, 1, 0, 40));
        EDGE.due("36 the last came", x.write(1, 39, 0), 77);
        EDGE.refused("36 BEYOND: 41", Check.BEYOND, forty, y -> y.copy(0, 0, 1, 0, 41));
        EDGE.refused("36 BEYOND: 40 from 1 on", Check.BEYOND, forty, y -> y.copy(0, 1, 1, 0, 40));
    }

    private static void promise36AsTheyAllWere() {
        SealPrints x = EDGE.acts("36 upward", 4, EdgeSheetsTest::alike,
                y -> y.copy(0, 0, 0, 1, 4));
        same("36 as they all were", numbers(x, 0, 5), "1 1 2 3 4");
        x = EDGE.acts("36 downward", 4, EdgeSheetsTest::alike, y -> y.copy(0, 1, 0, 0, 4));
        same("36 as they all were", numbers(x, 0, 5), "2 3 4 5 5");
        EDGE.asks("36 in its own place", 5, EdgeSheetsTest::alike, y -> y.copy(0, 0, 0, 0, 5));
        x = EDGE.acts("36 from one to another", 2, EdgeSheetsTest::alike,
                y -> y.copy(3, 0, 0, 2, 2));
        same("36 the first stays", numbers(x, 3, 3), "6 7 8");
        same("36 those ahead and behind stay", numbers(x, 0, 5), "1 2 6 7 5");
    }

    private static void promise37Sheet() {
        EDGE.noSuchSheet("37 BEYOND: no such sheet", (x, s) -> x.dates(s));
        EDGE.refused("37 MISSING", Check.MISSING, Samples::few, x -> x.dates(3));
        EDGE.refused("37 MISSING", Check.MISSING, Samples::empty, x -> x.dates(0));
    }

    /** The years of prints 0 to 2 after a call. */
    private static String years(SealPrints x) {
        return x.of(0, 2) + " " + x.of(1, 2) + " " + x.of(2, 2);
    }

    private static void dates(String why, int came, String years, int bits, long... numbers) {
        SealPrints x = EDGE.acts("37 " + why, came, with(bits, numbers), y -> y.dates(0));
        same("37 " + why, years(x), years);
    }

    private static void promise37Years() {
        dates("0 and 2000", 3, "0 2000 1", 64, 0, 2000, 1);
        dates("below 0 and above 2000", 0, "1000 1010 1020", 64, -1, 2001, 2002);
        dates("longs that end like years", 0, "1000 1010 1020", 64, 1L << 32, (1L << 32) + 5,
                Long.MIN_VALUE);
        dates("the greatest", 1, "1000 1010 7", 64, Long.MAX_VALUE, -(1L << 32), 7);
        dates("of 16 bits", 2, "2000 1010 0", 16, 2000, 2001, 0);
        dates("of 16 bits, below 0", 0, "1000 1010 1020", 16, -1, 32768, 32767);
        dates("of 8 bits", 2, "127 1010 0", 8, 127, 128, 256);
    }

    private static void promise37StandForNone() {
        dates("no numbers", 0, "1000 1010 1020", 8);
        dates("fewer numbers than PRINTS", 2, "5 6 1020", 8, 5, 6);
        dates("as many", 3, "5 6 7", 8, 5, 6, 7);
        dates("more", 3, "5 6 7", 8, 5, 6, 7, 8);
        dates("one left out, the others not moved", 2, "5 1010 7", 64, 5, 3000, 7, 8);
        Edge.Maker none = () -> {
            SealPrints x = new SealPrints();
            Samples.lay(x, 0, 64, 1, 2);
            return x;
        };
        EDGE.asks("37 no PRINTS", 0, none, x -> x.dates(0));
        Edge.Maker full = () -> {
            SealPrints x = Samples.full();
            x.sheet(0, 16, 40);
            x.write(0, 11, 99);
            return x;
        };
        SealPrints x = EDGE.acts("37 twelve of forty", 12, full, y -> y.dates(0));
        EDGE.due("37 the last", x.of(11, 2), 99);
    }

    private static void promise38Sheet() {
        EDGE.noSuchSheet("38 BEYOND: no such sheet", (x, s) -> x.show(s));
        EDGE.refused("38 MISSING", Check.MISSING, Samples::few, x -> x.show(3));
        EDGE.refused("38 MISSING", Check.MISSING, Samples::empty, x -> x.show(0));
    }

    private static void promise38AsFarAsItHasNumbers() {
        String[] due = {"", "1", "1 5", "1 5 5", "1 5 5 9"};
        for (int n = 0; n <= 4; n++) {
            long[] nines = {9, 9, 9, 9};
            SealPrints x = EDGE.acts("38 " + n + " numbers", Math.min(3, n),
                    with(64, Arrays.copyOf(nines, n)), y -> y.show(0));
            same("38 those behind stay", numbers(x, 0, n), due[n]);
        }
        Edge.Maker none = () -> {
            SealPrints x = new SealPrints();
            Samples.lay(x, 0, 64, 9, 9);
            return x;
        };
        EDGE.asks("38 no PRINTS", 0, none, x -> x.show(0));
        Edge.Maker full = () -> {
            SealPrints x = Samples.full();
            x.sheet(0, 64, 40);
            return x;
        };
        SealPrints x = EDGE.acts("38 twelve of forty", 12, full, y -> y.show(0));
        EDGE.due("38 the last", x.write(0, 11, 0), 5L << 11 & 0x55555L);
        EDGE.due("38 behind the last", x.write(0, 12, 0), 0);
    }

    private static void promise38AsLongs() {
        int[] bits = {8, 16, 64};
        long[] due = {-1, -1, 0xFFFFFFFFFFL};
        for (int k = 0; k < 3; k++) {
            SealPrints x = new SealPrints();
            x.print(0, -1L);
            x.look(0);
            x.sheet(0, bits[k], 1);
            EDGE.due("38 how many", x.show(0), 1);
            EDGE.due("38 of " + bits[k] + " bits", x.write(0, 0, 0), due[k]);
        }
    }

    private static void promise39Sheet() {
        EDGE.noSuchSheet("39 BEYOND: no such sheet", (x, s) -> x.read(s));
        EDGE.refused("39 MISSING", Check.MISSING, Samples::few, x -> x.read(3));
        EDGE.refused("39 MISSING", Check.MISSING, Samples::empty, x -> x.read(0));
    }

    /** Three prints in years 10 to 30, each with a mark more, and this sheet 0. */
    private static void reads(String why, int answer, int bits, long... numbers) {
        EDGE.asks("39 " + why, answer, () -> {
            SealPrints x = Samples.marked(1, 3, 7);
            Samples.lay(x, 0, bits, numbers);
            return x;
        }, x -> x.read(0));
    }

    private static void promise39NoPrint() {
        reads("the first and the last PRINT", 0, 64, 0, 2);
        reads("no PRINT 3", 1, 64, 3);
        reads("no PRINT -1", 1, 64, -1);
        reads("no PRINT 3, later", 3, 64, 0, 1, 3);
        reads("no PRINT -1, later", 2, 64, 0, -1, 2);
        reads("no PRINT 12", 1, 8, 12);
        reads("no PRINT 32", 2, 8, 0, 32);
        reads("a long that ends like a PRINT", 2, 64, 0, (1L << 32) + 1);
        reads("the least long", 1, 64, Long.MIN_VALUE);
        reads("the greatest long", 1, 64, Long.MAX_VALUE);
        reads("of 8 bits below 0", 1, 8, 128);
    }

    private static void promise39CameAlready() {
        reads("came already at once", 2, 64, 0, 0);
        reads("came already, later", 4, 64, 0, 1, 2, 0);
        reads("the first of two faults", 2, 64, 1, 1, 5);
        reads("all of them once", 0, 8, 0, 1, 2);
    }

    private static void promise39CantBe() {
        reads("the second can't be", 2, 64, 1, 0);
        reads("one that came can't be ahead of the third", 3, 64, 0, 2, 1);
        reads("the last alone", 0, 16, 2);
        EDGE.asks("39 one that came long ago can't be", 3, () -> {
            SealPrints x = Samples.wide(980, 1000, 1020);
            Samples.lay(x, 0, 8, 0, 1, 2);
            return x;
        }, x -> x.read(0));
        EDGE.asks("39 whatever YEARS", 0, () -> {
            SealPrints x = Samples.marked(7, 3, 1);
            Samples.lay(x, 0, 8, 2, 1, 0);
            return x;
        }, x -> x.read(0));
    }

    private static void promise39NoneToForty() {
        reads("no numbers", 0, 8);
        EDGE.asks("39 no numbers, no PRINTS", 0, () -> {
            SealPrints x = new SealPrints();
            x.sheet(0, 64, 0);
            return x;
        }, x -> x.read(0));
        EDGE.asks("39 a number, no PRINTS", 1, () -> {
            SealPrints x = new SealPrints();
            x.sheet(0, 64, 1);
            return x;
        }, x -> x.read(0));
        for (int n : new int[] {12, 13, 40}) {
            EDGE.asks("39 twelve of " + n, n == 12 ? 0 : 13, () -> {
                SealPrints x = Check.withPrints(12);
                x.sheet(0, 8, n);
                for (int i = 0; i < 12; i++) {
                    x.write(0, i, 11 - i);
                }
                return x;
            }, x -> x.read(0));
        }
    }
}
