/** Promises 34 to 39: sheets. */
public final class SheetsTest {
    private static final int LEAST = Integer.MIN_VALUE;
    private static final int GREATEST = Integer.MAX_VALUE;
    private static final Check CHECK = new Check("SheetsTest");

    public static void main(String[] args) {
        promise34Sheet();
        promise35Write();
        promise35LowestBits();
        promise36Copy();
        promise36Wrong();
        promise37Dates();
        promise38Show();
        promise39Read();
        CHECK.end();
    }

    private static void due(String what, long got, long want) {
        CHECK.due(what, got, want);
    }

    private static long sum(SealPrints x, int s, int n) {
        long all = 0;
        for (int i = 0; i < n; i++) {
            long was = x.write(s, i, 0L);
            x.write(s, i, was);
            all = all * 10 + was;
        }
        return all;
    }

    private static void promise34Sheet() {
        SealPrints x = new SealPrints();
        int[] bits = {8, 16, 64};
        for (int b : bits) {
            due("34 n", x.sheet(3, b, 40), 40);
            due("34 none", x.sheet(3, b, 0), 0);
            due("34 none isn't missing", x.show(3), 0);
            due("34 no number 0", x.write(3, 0, 1), Check.BEYOND);
        }
        Samples.lay(x, 0, 64, 5, 6);
        due("34 laid anew", x.sheet(0, 64, 3), 3);
        due("34 all 0", sum(x, 0, 3), 0);
        due("34 missing", x.sheet(0, 0, 7), 0);
        due("34 is missing", x.write(0, 0, 1), Check.MISSING);
        due("34 sheet 4", x.sheet(4, 8, 1), Check.BEYOND);
        due("34 sheet -1", x.sheet(-1, 8, 1), Check.BEYOND);
        int[] wrongBits = {-8, 1, 7, 9, 15, 32, 63, 65, 128, LEAST, GREATEST};
        for (int b : wrongBits) {
            due("34 bits " + b, x.sheet(0, b, 1), Check.BEYOND);
        }
        due("34 n -1", x.sheet(1, 8, -1), Check.SIZE);
        due("34 n least", x.sheet(1, 8, LEAST), Check.SIZE);
        due("34 n -1, bits 0", x.sheet(1, 0, -1), Check.SIZE);
        due("34 n 41", x.sheet(1, 64, 41), Check.BEYOND);
        due("34 n 41, bits 0", x.sheet(1, 0, 41), Check.BEYOND);
        due("34 n greatest", x.sheet(1, 16, GREATEST), Check.BEYOND);
        due("34 bits ahead of n", x.sheet(1, 3, -1), Check.BEYOND);
        due("34 sheet ahead of n", x.sheet(4, 8, -1), Check.BEYOND);
        x.sheet(2, 8, 2);
        x.write(2, 0, 9);
        x.sheet(2, 8, 41);
        x.sheet(2, 0, -1);
        due("34 a finding changes nothing", x.write(2, 0, 9), 9);
    }

    private static void promise35Write() {
        SealPrints x = new SealPrints();
        due("35 missing", x.write(0, 0, 1), Check.MISSING);
        due("35 missing ahead of number", x.write(0, -1, 1), Check.MISSING);
        due("35 sheet 4", x.write(4, 0, 1), Check.BEYOND);
        due("35 sheet -1", x.write(-1, 0, 1), Check.BEYOND);
        x.sheet(0, 64, 2);
        due("35 was 0", x.write(0, 1, 77), 0);
        due("35 was 77", x.write(0, 1, Long.MIN_VALUE), 77);
        due("35 was the least", x.write(0, 1, 4), Long.MIN_VALUE);
        due("35 number 2", x.write(0, 2, 1), Check.BEYOND);
        due("35 number -1", x.write(0, -1, 1), Check.BEYOND);
        due("35 number 40", x.write(0, 40, 1), Check.BEYOND);
        due("35 number greatest", x.write(0, GREATEST, 1), Check.BEYOND);
        due("35 another number stays", x.write(0, 0, Check.BEYOND), 0);
        long findings = x.status(-1);
        due("35 a number like a finding", x.write(0, 0, 1), Check.BEYOND);
        due("35 is none", x.status(-1), findings);
    }

    private static void promise35LowestBits() {
        SealPrints x = new SealPrints();
        long[][] eight = {{127, 127}, {128, -128}, {255, -1}, {256, 0}, {-1, -1}, {-129, 127},
            {Long.MAX_VALUE, -1}, {0x1234567890ABCDEFL, (byte) 0xEF}};
        long[][] sixteen = {{32767, 32767}, {32768, -32768}, {65535, -1}, {65536, 0}, {-1, -1},
            {-32769, 32767}, {Long.MIN_VALUE, 0}, {0x1234567890ABCDEFL, (short) 0xCDEF}};
        x.sheet(0, 8, 1);
        for (long[] each : eight) {
            x.write(0, 0, each[0]);
            due("35 eight bits of " + each[0], x.write(0, 0, 0), each[1]);
        }
        x.sheet(0, 16, 1);
        for (long[] each : sixteen) {
            x.write(0, 0, each[0]);
            due("35 sixteen bits of " + each[0], x.write(0, 0, 0), each[1]);
        }
    }

    private static void promise36Copy() {
        SealPrints x = new SealPrints();
        Samples.lay(x, 0, 64, 1, 2, 3, 4, 5);
        Samples.lay(x, 1, 64, 6, 7, 8);
        due("36 two", x.copy(0, 3, 1, 0, 2), 2);
        due("36 came", sum(x, 1, 3), 458);
        due("36 the first stays", sum(x, 0, 5), 12345);
        due("36 upward in itself", x.copy(0, 0, 0, 1, 4), 4);
        due("36 as they all were", sum(x, 0, 5), 11234);
        due("36 downward in itself", x.copy(0, 2, 0, 0, 3), 3);
        due("36 as they all were", sum(x, 0, 5), 23434);
        due("36 none", x.copy(0, 5, 1, 3, 0), 0);
        due("36 all", x.copy(1, 0, 0, 2, 3), 3);
        due("36 came", sum(x, 0, 5), 23458);
        Samples.lay(x, 2, 8, -3, 2);
        Samples.lay(x, 3, 8, 0);
        due("36 of eight bits", x.copy(2, 0, 3, 0, 1), 1);
        due("36 came with its sign", x.write(3, 0, 0), -3);
    }

    private static void promise36Wrong() {
        SealPrints x = new SealPrints();
        Samples.lay(x, 0, 16, 1, 2, 3);
        Samples.lay(x, 1, 16, 4, 5);
        Samples.lay(x, 2, 8, 6, 7);
        due("36 sheet 4", x.copy(4, 0, 0, 0, 1), Check.BEYOND);
        due("36 sheet -1 ahead of missing", x.copy(3, 0, -1, 0, 1), Check.BEYOND);
        due("36 from a missing one", x.copy(3, 0, 0, 0, 1), Check.MISSING);
        due("36 to a missing one", x.copy(0, 0, 3, 0, 1), Check.MISSING);
        due("36 missing ahead of BEYOND", x.copy(0, -1, 3, 0, 1), Check.MISSING);
        due("36 not of as many bits", x.copy(0, 0, 2, 0, 1), Check.KIND);
        due("36 bits ahead of BEYOND", x.copy(2, -1, 0, 0, 1), Check.KIND);
        int[][] runs = {{0, 0, 3}, {0, 1, 2}, {3, 0, 1}, {2, 0, 2}, {-1, 0, 1}, {0, -1, 1},
            {0, 0, -1}, {4, 0, 0}, {0, 3, 0}, {0, 0, GREATEST}, {GREATEST, 0, 1},
            {0, GREATEST, 1}, {GREATEST, GREATEST, GREATEST}, {LEAST, 0, 0}, {0, LEAST, 0},
            {0, 0, LEAST}, {1, 0, GREATEST}};
        for (int[] run : runs) {
            due("36 run", x.copy(0, run[0], 1, run[1], run[2]), Check.BEYOND);
        }
        due("36 nothing came", sum(x, 0, 3) * 100 + sum(x, 1, 2), 12345);
    }

    private static void promise37Dates() {
        SealPrints x = Check.withPrints(4);
        due("37 missing", x.dates(0), Check.MISSING);
        due("37 sheet 4", x.dates(4), Check.BEYOND);
        due("37 sheet -1", x.dates(-1), Check.BEYOND);
        Samples.lay(x, 0, 64, 2000, -1, 0x100000005L, 0, 9, 9);
        x.set(1, 2, 11);
        x.set(2, 2, 12);
        x.set(3, 2, 13);
        due("37 two came", x.dates(0), 2);
        due("37 year 2000", x.of(0, 2), 2000);
        due("37 below 0 is left out", x.of(1, 2), 11);
        due("37 too great is left out", x.of(2, 2), 12);
        due("37 year 0", x.of(3, 2), 0);
        Samples.lay(x, 1, 16, 2001, 7);
        due("37 2001", x.dates(1), 1);
        due("37 left out", x.of(0, 2), 2000);
        due("37 as far as it has numbers", x.of(1, 2), 7);
        due("37 and no further", x.of(2, 2), 12);
        Samples.lay(x, 2, 8, 200, 100);
        due("37 200 of eight bits is below 0", x.dates(2), 1);
        due("37 no prints", emptyDates(), 0);
    }

    private static long emptyDates() {
        SealPrints x = new SealPrints();
        Samples.lay(x, 0, 8, 1, 2, 3);
        return x.dates(0);
    }

    private static void promise38Show() {
        SealPrints x = new SealPrints();
        due("38 missing", x.show(1), Check.MISSING);
        due("38 sheet 4", x.show(4), Check.BEYOND);
        due("38 sheet -1", x.show(-1), Check.BEYOND);
        x.print(0, -1L);
        x.print(1, -1L);
        x.print(0, -1L);
        x.look(2);
        Samples.lay(x, 1, 64, 9, 9, 9, 9);
        due("38 three", x.show(1), 3);
        due("38 what the first shows", x.write(1, 0, 0), 0x3FFFFFFFL);
        due("38 what the burnt one shows", x.write(1, 1, 0), 0x15555555L);
        due("38 what the seen one shows", x.write(1, 2, 0), 0xFFFFFFFFFFL);
        due("38 the others stay", x.write(1, 3, 0), 9);
        Samples.lay(x, 2, 64, 9);
        due("38 as far as it has numbers", x.show(2), 1);
        Samples.lay(x, 3, 8, 9, 9);
        due("38 eight bits", x.show(3), 2);
        due("38 the lowest", x.write(3, 0, 0), -1);
        due("38 the lowest", x.write(3, 1, 0), 0x55);
        Samples.lay(x, 3, 16, 9, 9);
        due("38 sixteen bits", x.show(3), 2);
        due("38 the lowest", x.write(3, 1, 0), 0x5555);
    }

    private static void promise39Read() {
        SealPrints x = new SealPrints();
        due("39 missing", x.read(0), Check.MISSING);
        due("39 sheet 4", x.read(4), Check.BEYOND);
        due("39 sheet -1", x.read(-1), Check.BEYOND);
        x.print(0, 7);
        x.print(0, 3);
        x.print(0, 1);
        x.print(0, 8);
        x.set(0, 2, 1);
        Samples.lay(x, 0, 64, 2, 1, 0);
        due("39 a row, whatever years", x.read(0), 0);
        Samples.lay(x, 0, 64, 2, 0, 1);
        due("39 one that came can't be ahead", x.read(0), 3);
        Samples.lay(x, 0, 64, 3, 2, 1);
        due("39 already the second", x.read(0), 2);
        Samples.lay(x, 0, 64, 2, 1, 2);
        due("39 came already", x.read(0), 3);
        Samples.lay(x, 0, 64, 2, 4, 1);
        due("39 no print 4", x.read(0), 2);
        Samples.lay(x, 0, 64, 4);
        due("39 no print 4 at once", x.read(0), 1);
        Samples.lay(x, 0, 64, -1);
        due("39 no print -1", x.read(0), 1);
        Samples.lay(x, 0, 64, 2, 0x100000001L);
        due("39 a long that ends like a print", x.read(0), 2);
        Samples.lay(x, 0, 8, 2, 257);
        due("39 of eight bits it is one", x.read(0), 0);
        Samples.lay(x, 0, 8);
        due("39 empty", x.read(0), 0);
        x = new SealPrints();
        x.print(0, 1);
        x.print(4, 0);
        x.print(0, 0);
        Samples.lay(x, 0, 16, 0, 1, 2);
        due("39 every one that came is asked", x.read(0), 3);
        x.slack(0);
        x.set(1, 1, 999);
        due("39 widths", x.read(0), 2);
    }
}
