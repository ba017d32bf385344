/** Promises 1 to 10: a new object, and prints. */
public final class PrintsTest {
    private static final int LEAST = Integer.MIN_VALUE;
    private static final int GREATEST = Integer.MAX_VALUE;
    private static final long ALL = 0xFFFFFFFFFFL;
    private static final Check CHECK = new Check("PrintsTest");

    public static void main(String[] args) {
        promise1NewObject();
        promise2Print();
        promise3Of();
        promise3TrueWidth();
        promise4Marks();
        promise5Set();
        promise6Scratch();
        promise7Look();
        promise8Turn();
        promise9As();
        promise10Slack();
        CHECK.end();
    }

    private static void due(String what, long got, long want) {
        CHECK.due(what, got, want);
    }

    private static void promise1NewObject() {
        SealPrints x = new SealPrints();
        due("1 no prints", x.count(0), 0);
        due("1 none seen", x.count(1), 0);
        due("1 the tape is empty", x.count(2), 0);
        due("1 slack 20 at first", x.count(3), 20);
        due("1 no marks", x.count(4), 0);
        due("1 no finding yet", x.status(-1), 0);
        due("1 nothing kept", x.tear(), 0);
        due("1 nothing to undo", x.undo(), Check.NONE);
        for (int s = 0; s < 4; s++) {
            due("1 sheet missing at first", x.show(s), Check.MISSING);
        }
        due("1 no print 0", x.of(0, 0), Check.BEYOND);
        SealPrints y = new SealPrints();
        y.print(0, 1L);
        due("1 objects share nothing", x.count(0), 0);
    }

    private static void promise2Print() {
        SealPrints x = new SealPrints();
        for (int p = 0; p < 12; p++) {
            due("2 its number", x.print(p % 6, p), p);
        }
        due("2 a 13th", x.print(0, 0L), Check.FULL);
        due("2 kind is asked ahead of FULL", x.print(6, 0L), Check.BEYOND);
        due("2 kind -1", x.print(-1, 0L), Check.BEYOND);
        due("2 least kind", x.print(LEAST, 0L), Check.BEYOND);
        due("2 greatest kind", x.print(GREATEST, 0L), Check.BEYOND);
        due("2 still 12", x.count(0), 12);
        SealPrints y = new SealPrints();
        y.print(3, 1L << 40 | 1L << 63 | 1L << 39 | 1L);
        due("2 marks above 39 are nothing", y.marks(0, 0), 1L << 39 | 1L);
        due("2 kind", y.of(0, 0), 3);
        due("2 width at first", y.of(0, 1), 1000);
        due("2 year at first", y.of(0, 2), 0);
        due("2 not seen at first", y.of(0, 3), 0);
        y.set(0, 1, 5);
        y.set(0, 2, 6);
        y.look(0);
        y.image();
        SealPrints z = new SealPrints();
        z.image();
        z.print(3, ALL);
        z.set(0, 1, 5);
        z.set(0, 2, 6);
        z.look(0);
        z.undo();
        z.print(1, 4L);
        due("2 nothing stays of an undone one: width", z.of(0, 1), 1000);
        due("2 nothing stays of an undone one: year", z.of(0, 2), 0);
        due("2 nothing stays of an undone one: seen", z.of(0, 3), 0);
        due("2 nothing stays of an undone one: marks", z.marks(0, 0), 4);
    }

    private static void promise3Of() {
        SealPrints x = new SealPrints();
        x.print(1, Check.places(0, 1, 2, 29, 30, 38));
        due("3 kind", x.of(0, 0), 1);
        due("3 shows 0 and 2 alone", x.of(0, 5), 2);
        x.look(0);
        due("3 seen", x.of(0, 3), 1);
        due("3 shows 30 and 38, too", x.of(0, 5), 4);
        x.set(0, 1, 77);
        x.set(0, 2, 1066);
        due("3 width", x.of(0, 1), 77);
        due("3 year", x.of(0, 2), 1066);
        due("3 what -1", x.of(0, -1), Check.BEYOND);
        due("3 what 6", x.of(0, 6), Check.BEYOND);
        due("3 no print 1", x.of(1, 0), Check.BEYOND);
        due("3 no print -1", x.of(-1, 0), Check.BEYOND);
        due("3 no least print", x.of(LEAST, 0), Check.BEYOND);
        due("3 no greatest print", x.of(GREATEST, GREATEST), Check.BEYOND);
        due("3 no print 12", x.of(12, 4), Check.BEYOND);
    }

    private static void promise3TrueWidth() {
        int[][] byKindsOf1000 = {{0, 1000}, {1, 1111}, {2, 1030}, {3, 1040}, {4, 1000}, {5, 1388}};
        int[][] byKindsOf1 = {{0, 1}, {1, 1}, {2, 1}, {3, 11}, {4, 1}, {5, 1}};
        int[][] byKindsOf9999 = {{0, 9999}, {1, 11110}, {2, 10308}, {3, 10318}, {4, 9999},
            {5, 13887}};
        // MELTED from a width of 71: a BURNT one has 78 (cut), and 7800 by 80 is 97, not 98.
        int[][] byKindsOf71 = {{0, 71}, {1, 78}, {2, 73}, {3, 83}, {4, 71}, {5, 97}};
        trueWidths(1000, byKindsOf1000);
        trueWidths(1, byKindsOf1);
        trueWidths(9999, byKindsOf9999);
        trueWidths(71, byKindsOf71);
    }

    private static void trueWidths(int width, int[][] byKinds) {
        for (int[] each : byKinds) {
            SealPrints x = new SealPrints();
            x.print(each[0], 0L);
            x.set(0, 1, width);
            due("3 true width of " + width + " as kind " + each[0], x.of(0, 4), each[1]);
        }
    }

    private static void promise4Marks() {
        long unseen = 0xFFC0000000L;
        long odd = 0xAAAAAAAAAAL;
        long high = 0xFFFFF00000L;
        long[] hidesUnseen = {unseen, unseen | odd, unseen, unseen, unseen, odd | high};
        long[] hidesSeen = {0, odd, 0, 0, 0, odd | high};
        SealPrints x = new SealPrints();
        for (int kind = 0; kind < 6; kind++) {
            x.print(kind, ALL);
            due("4 marks", x.marks(kind, 0), ALL);
            due("4 hides, kind " + kind, x.marks(kind, 2), hidesUnseen[kind]);
            due("4 shows, kind " + kind, x.marks(kind, 1), ALL & ~hidesUnseen[kind]);
            x.look(kind);
            due("4 hides when seen, kind " + kind, x.marks(kind, 2), hidesSeen[kind]);
            due("4 shows when seen, kind " + kind, x.marks(kind, 1), ALL & ~hidesSeen[kind]);
        }
        x.print(0, Check.places(3, 35));
        due("4 hides goes not by marks", x.marks(6, 2), unseen);
        due("4 shows its marks alone", x.marks(6, 1), 8);
        due("4 what 3", x.marks(0, 3), Check.BEYOND);
        due("4 what -1", x.marks(0, -1), Check.BEYOND);
        due("4 no print 7", x.marks(7, 0), Check.BEYOND);
        due("4 no print -1", x.marks(-1, 0), Check.BEYOND);
    }

    private static void promise5Set() {
        SealPrints x = Check.withPrints(2);
        due("5 width was", x.set(1, 1, 1), 1000);
        due("5 width was", x.set(1, 1, 9999), 1);
        due("5 width 0", x.set(1, 1, 0), Check.BEYOND);
        due("5 width 10000", x.set(1, 1, 10000), Check.BEYOND);
        due("5 width is", x.of(1, 1), 9999);
        due("5 year was", x.set(1, 2, 2000), 0);
        due("5 year was", x.set(1, 2, 0), 2000);
        due("5 year -1", x.set(1, 2, -1), Check.BEYOND);
        due("5 year 2001", x.set(1, 2, 2001), Check.BEYOND);
        due("5 year is", x.of(1, 2), 0);
        due("5 what 0", x.set(1, 0, 1), Check.BEYOND);
        due("5 what 3", x.set(1, 3, 1), Check.BEYOND);
        due("5 no print 2", x.set(2, 1, 1), Check.BEYOND);
        due("5 no print -1", x.set(-1, 2, 1), Check.BEYOND);
        due("5 the other one stays", x.of(0, 1), 1000);
    }

    private static void promise6Scratch() {
        SealPrints x = Check.withPrints(2);
        due("6 comes at 0", x.scratch(0, 0, true), 1);
        due("6 is there", x.scratch(0, 0, true), 0);
        due("6 comes at 39", x.scratch(0, 39, true), 1);
        due("6 marks", x.marks(0, 0), Check.places(0, 39));
        due("6 goes", x.scratch(0, 39, false), 1);
        due("6 is gone", x.scratch(0, 39, false), 0);
        due("6 marks", x.marks(0, 0), 1);
        due("6 place 40", x.scratch(0, 40, true), Check.BEYOND);
        due("6 place -1", x.scratch(0, -1, false), Check.BEYOND);
        due("6 place 64", x.scratch(0, 64, false), Check.BEYOND);
        due("6 no print 2", x.scratch(2, 0, true), Check.BEYOND);
        due("6 no print -1", x.scratch(-1, 0, true), Check.BEYOND);
        due("6 marks stay", x.marks(0, 0), 1);
        due("6 the other one stays", x.marks(1, 0), 0);
    }

    private static void promise7Look() {
        SealPrints x = Check.withPrints(2);
        due("7 new", x.look(1), 1);
        due("7 seen", x.of(1, 3), 1);
        due("7 not new", x.look(1), 0);
        due("7 the other one stays", x.of(0, 3), 0);
        due("7 no print 2", x.look(2), Check.BEYOND);
        due("7 no print -1", x.look(-1), Check.BEYOND);
    }

    private static void promise8Turn() {
        SealPrints x = Check.withPrints(2);
        x.set(0, 1, 900);
        x.set(0, 2, 70);
        x.scratch(0, 4, true);
        for (int kind = 1; kind < 6; kind++) {
            due("8 what it was", x.turn(0, kind), kind - 1);
            due("8 what it is", x.of(0, 0), kind);
        }
        due("8 to what it is", x.turn(0, 5), 5);
        due("8 width stays", x.of(0, 1), 900);
        due("8 year stays", x.of(0, 2), 70);
        due("8 marks stay", x.marks(0, 0), 16);
        due("8 kind 6", x.turn(0, 6), Check.BEYOND);
        due("8 kind -1", x.turn(0, -1), Check.BEYOND);
        due("8 no print 2", x.turn(2, 0), Check.BEYOND);
        due("8 no print -1", x.turn(-1, 0), Check.BEYOND);
        due("8 stays", x.of(0, 0), 5);
        due("8 the other one stays", x.of(1, 0), 0);
    }

    private static void promise9As() {
        int[][] above = {{0}, {1, 0}, {2, 0}, {3, 2, 0}, {4, 0}, {5, 1, 0}};
        SealPrints x = new SealPrints();
        for (int kind = 0; kind < 6; kind++) {
            x.print(kind, 0L);
            x.set(kind, 2, 100 + kind);
            for (int as = 0; as < 6; as++) {
                boolean is = false;
                for (int each : above[kind]) {
                    is = is || each == as;
                }
                due("9 kind " + kind + " as " + as, x.as(kind, as), is ? 100 + kind : Check.KIND);
            }
        }
        due("9 kind 6", x.as(0, 6), Check.BEYOND);
        due("9 kind -1", x.as(0, -1), Check.BEYOND);
        due("9 no print 6", x.as(6, 0), Check.BEYOND);
        due("9 no print -1", x.as(-1, 5), Check.BEYOND);
    }

    private static void promise10Slack() {
        SealPrints x = new SealPrints();
        due("10 20 at first", x.slack(0), 20);
        due("10 was 0", x.slack(999), 0);
        due("10 1000", x.slack(1000), Check.BEYOND);
        due("10 -1", x.slack(-1), Check.BEYOND);
        due("10 least", x.slack(LEAST), Check.BEYOND);
        due("10 stays", x.count(3), 999);
    }
}
