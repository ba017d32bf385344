/** The bounds that promises 1 to 10 tell. */
public final class EdgePrintsTest {
    private static final long ALL = 0xFFFFFFFFFFL;
    private static final Edge EDGE = new Edge("EdgePrintsTest");
    private static final int[] NO_KINDS = {-1, 6, 7, 32, Edge.LEAST, Edge.GREATEST};

    public static void main(String[] args) {
        promise1();
        promise2Kind();
        promise2Full();
        promise2MarksAbove39();
        promise3();
        promise4();
        promise5Width();
        promise5Year();
        promise5What();
        promise6Place();
        promise6NewOrNot();
        promise7();
        promise8();
        promise9Kind();
        promise9Under();
        promise10();
        EDGE.end();
    }

    private static void promise1() {
        EDGE.asks("1 no PRINTS", 0, Samples::empty, x -> x.count(0));
        EDGE.refused("1 no PRINTS: there is no 0", Check.BEYOND, Samples::empty, x -> x.look(0));
        EDGE.asks("1 THE TAPE is empty", 0, Samples::empty, x -> x.count(2));
        EDGE.asks("1 THE TAPE is empty", 0, Samples::empty, x -> x.wipe());
        EDGE.asks("1 THE TAPE is empty", -1, Samples::empty, x -> x.text());
        EDGE.refused("1 no image is kept", Check.NONE, Samples::empty, x -> x.undo());
        EDGE.asks("1 no image is kept", 0, Samples::empty, x -> x.tear());
        for (int which = -1; which <= 6; which++) {
            EDGE.due("1 no finding yet", new SealPrints().status(which), 0);
        }
    }

    private static void promise2Kind() {
        for (int k = 0; k < 6; k++) {
            int kind = k;
            SealPrints x = EDGE.acts("2 kind " + kind, 3, Samples::few, y -> y.print(kind, 1));
            EDGE.due("2 it is of that kind", x.of(3, 0), kind);
        }
        EDGE.beyond("2 BEYOND: kind", Samples::few, (x, kind) -> x.print(kind, 1), NO_KINDS);
        EDGE.beyond("2 BEYOND: kind, of none", Samples::empty, (x, kind) -> x.print(kind, 1),
                NO_KINDS);
    }

    private static void promise2Full() {
        EDGE.acts("2 the first", 0, Samples::empty, x -> x.print(0, 0));
        EDGE.acts("2 the 12th", 11, () -> Check.withPrints(11), x -> x.print(5, -1L));
        for (int k = 0; k < 6; k++) {
            int kind = k;
            EDGE.refused("2 FULL", Check.FULL, Samples::full, x -> x.print(kind, -1L));
        }
        SealPrints x = Check.withPrints(12);
        x.print(0, 0);
        EDGE.due("2 FULL again", x.print(0, 0), Check.FULL);
    }

    private static void promise2MarksAbove39() {
        for (int k = 0; k < 64; k++) {
            SealPrints x = new SealPrints();
            x.print(0, 1L << k);
            EDGE.due("2 a mark at " + k, x.marks(0, 0), k <= 39 ? 1L << k : 0);
            EDGE.due("2 counted at " + k, x.count(4), k <= 39 ? 1 : 0);
        }
        SealPrints x = new SealPrints();
        x.print(0, -1L);
        x.print(0, Long.MIN_VALUE);
        EDGE.due("2 at all places", x.marks(0, 0), ALL);
        EDGE.due("2 above all places", x.marks(1, 0), 0);
    }

    private static void promise3() {
        EDGE.noSuchPrint("3 BEYOND: print", (x, p) -> x.of(p, 0));
        EDGE.noSuchPrint("3 BEYOND: print", (x, p) -> x.of(p, 5));
        for (int p : new int[] {0, 2}) {
            EDGE.beyond("3 BEYOND: what", Samples::few, (x, what) -> x.of(p, what), -1, 6, 7, 32,
                    Edge.LEAST, Edge.GREATEST);
        }
        long[] due = {1, 900, 1010, 1, 1000, 2};
        for (int k = 0; k < 6; k++) {
            int what = k;
            EDGE.asks("3 what " + what, due[what], Samples::few, x -> x.of(1, what));
        }
        EDGE.asks("3 the first print", 0, Samples::full, x -> x.of(0, 0));
        EDGE.asks("3 the last print", 5, Samples::full, x -> x.of(11, 0));
        EDGE.due("3 SHOWS none", Check.withPrints(1).of(0, 5), 0);
        SealPrints x = new SealPrints();
        x.print(0, -1L);
        x.look(0);
        EDGE.due("3 SHOWS all", x.of(0, 5), 40);
    }

    private static void promise4() {
        EDGE.noSuchPrint("4 BEYOND: print", (x, p) -> x.marks(p, 0));
        EDGE.noSuchPrint("4 BEYOND: print", (x, p) -> x.marks(p, 2));
        EDGE.beyond("4 BEYOND: what", Samples::few, (x, what) -> x.marks(0, what), -1, 3, 4, 32,
                Edge.LEAST, Edge.GREATEST);
        long[] due = {0b100101, 0b101, 0xAAAAAAAAAAL};
        for (int k = 0; k < 3; k++) {
            int what = k;
            EDGE.asks("4 what " + what, due[what], Samples::few, x -> x.marks(1, what));
        }
        EDGE.asks("4 the last print", 5L << 11, Samples::full, x -> x.marks(11, 0));
    }

    private static void promise5Width() {
        for (int width : new int[] {1, 2, 9998, 9999}) {
            SealPrints x = EDGE.acts("5 WIDTH " + width, 970, Samples::few,
                    y -> y.set(2, 1, width));
            EDGE.due("5 WIDTH is " + width, x.of(2, 1), width);
            EDGE.due("5 YEAR stays", x.of(2, 2), 1020);
        }
        EDGE.beyond("5 BEYOND: WIDTH", Samples::few, (x, v) -> x.set(0, 1, v), 0, 10000, -1,
                10001, 65537, Edge.LEAST, Edge.GREATEST);
    }

    private static void promise5Year() {
        for (int year : new int[] {0, 1, 1999, 2000}) {
            SealPrints x = EDGE.acts("5 YEAR " + year, 1020, Samples::few,
                    y -> y.set(2, 2, year));
            EDGE.due("5 YEAR is " + year, x.of(2, 2), year);
            EDGE.due("5 WIDTH stays", x.of(2, 1), 970);
        }
        EDGE.beyond("5 BEYOND: YEAR", Samples::few, (x, v) -> x.set(0, 2, v), -1, 2001, 2002,
                9999, 65536, Edge.LEAST, Edge.GREATEST);
    }

    private static void promise5What() {
        EDGE.beyond("5 BEYOND: what", Samples::few, (x, what) -> x.set(0, what, 1), 0, 3, -1, 4,
                33, 34, Edge.LEAST, Edge.GREATEST);
        EDGE.noSuchPrint("5 BEYOND: print", (x, p) -> x.set(p, 1, 5));
        EDGE.noSuchPrint("5 BEYOND: print", (x, p) -> x.set(p, 2, 5));
        EDGE.acts("5 the last print", 1000, Samples::full, x -> x.set(11, 1, 9999));
        EDGE.asks("5 one and the same WIDTH", 970, Samples::few, x -> x.set(2, 1, 970));
        EDGE.asks("5 one and the same YEAR", 1020, Samples::few, x -> x.set(2, 2, 1020));
    }

    private static void promise6Place() {
        for (int k = 0; k < 40; k++) {
            int place = k;
            SealPrints x = EDGE.acts("6 PLACE " + place, 1, () -> Check.withPrints(2),
                    y -> y.scratch(1, place, true));
            EDGE.due("6 a mark at " + place, x.marks(1, 0), 1L << place);
            EDGE.due("6 it goes", x.scratch(1, place, false), 1);
            EDGE.due("6 none is left", x.marks(1, 0), 0);
        }
        int[] none = {-1, 40, 41, 63, 64, 65, 103, -24, -64, Edge.LEAST, Edge.GREATEST};
        EDGE.beyond("6 BEYOND: PLACE", Samples::few, (x, k) -> x.scratch(0, k, true), none);
        EDGE.beyond("6 BEYOND: PLACE", Samples::few, (x, k) -> x.scratch(0, k, false), none);
        EDGE.noSuchPrint("6 BEYOND: print", (x, p) -> x.scratch(p, 0, true));
        EDGE.noSuchPrint("6 BEYOND: print", (x, p) -> x.scratch(p, 39, false));
    }

    private static void promise6NewOrNot() {
        EDGE.asks("6 it is there already", 0, Samples::few, x -> x.scratch(2, 30, true));
        EDGE.asks("6 there is none", 0, Samples::few, x -> x.scratch(2, 31, false));
        SealPrints x = EDGE.acts("6 it goes", 1, Samples::few, y -> y.scratch(2, 30, false));
        EDGE.due("6 the others stay", x.marks(2, 0), 0b101);
        x = EDGE.acts("6 it comes", 1, Samples::few, y -> y.scratch(2, 39, true));
        EDGE.due("6 the others stay", x.marks(2, 0), Check.places(0, 2, 30, 39));
        EDGE.acts("6 the last print", 1, Samples::full, y -> y.scratch(11, 0, true));
    }

    private static void promise7() {
        SealPrints x = EDGE.acts("7 new", 1, Samples::few, y -> y.look(2));
        EDGE.due("7 SEEN", x.of(2, 3), 1);
        EDGE.due("7 no other one", x.count(1), 2);
        EDGE.asks("7 not new", 0, Samples::few, y -> y.look(1));
        EDGE.acts("7 the first print", 1, Samples::full, y -> y.look(0));
        EDGE.asks("7 the last print", 0, Samples::full, y -> y.look(11));
        EDGE.noSuchPrint("7 BEYOND", (y, p) -> y.look(p));
    }

    private static void promise8() {
        for (int k = 0; k < 6; k++) {
            int kind = k;
            SealPrints x = EDGE.acts("8 kind " + kind, 2, Samples::few, y -> y.turn(2, kind));
            EDGE.due("8 it is of that kind", x.of(2, 0), kind);
            EDGE.due("8 no other one", x.of(1, 0), 1);
        }
        EDGE.asks("8 one and the same kind", 2, Samples::few, x -> x.turn(2, 2));
        EDGE.beyond("8 BEYOND: kind", Samples::few, (x, kind) -> x.turn(2, kind), NO_KINDS);
        EDGE.noSuchPrint("8 BEYOND: print", (x, p) -> x.turn(p, 0));
        EDGE.noSuchPrint("8 BEYOND: print", (x, p) -> x.turn(p, 5));
    }

    private static void promise9Kind() {
        EDGE.noSuchPrint("9 BEYOND: no such one", (x, p) -> x.as(p, 0));
        EDGE.noSuchPrint("9 BEYOND: no such one", (x, p) -> x.as(p, 5));
        EDGE.beyond("9 BEYOND: kind", Samples::few, (x, kind) -> x.as(2, kind), NO_KINDS);
        EDGE.asks("9 YEAR", 1020, Samples::few, x -> x.as(2, 2));
        EDGE.asks("9 the last print", 900, Samples::full, x -> x.as(11, 5));
        SealPrints x = Check.withPrints(2);
        x.set(1, 2, 2000);
        EDGE.due("9 YEAR 0", x.as(0, 0), 0);
        EDGE.due("9 YEAR 2000", x.as(1, 0), 2000);
    }

    private static void promise9Under() {
        String[] under = {"0", "10", "20", "320", "40", "510"};
        for (int k = 0; k < 6; k++) {
            int kind = k;
            Edge.Maker maker = () -> {
                SealPrints x = Samples.few();
                x.turn(2, kind);
                return x;
            };
            for (int a = 0; a < 6; a++) {
                int as = a;
                if (under[kind].indexOf('0' + as) >= 0) {
                    EDGE.asks("9 " + kind + " as " + as, 1020, maker, x -> x.as(2, as));
                } else {
                    EDGE.refused("9 KIND: " + kind + " as " + as, Check.KIND, maker,
                            x -> x.as(2, as));
                }
            }
        }
    }

    private static void promise10() {
        for (int v : new int[] {0, 1, 998, 999}) {
            SealPrints x = EDGE.acts("10 SLACK " + v, 33, Samples::few, y -> y.slack(v));
            EDGE.due("10 SLACK is " + v, x.count(3), v);
        }
        EDGE.asks("10 one and the same", 33, Samples::few, x -> x.slack(33));
        EDGE.beyond("10 BEYOND", Samples::few, (x, v) -> x.slack(v), -1, 1000, 1001, 65536,
                Edge.LEAST, Edge.GREATEST);
    }
}
