/** The bounds that promises 40 to 44 tell. */
public final class EdgeImagesTest {
    private static final Edge EDGE = new Edge("EdgeImagesTest");

    public static void main(String[] args) {
        promise40();
        promise40EachPart();
        promise41None();
        promise41TheLatestStays();
        promise41NoneToTwelve();
        promise41WhatIsNotKept();
        promise42();
        promise43What();
        promise43LeastAndGreatest();
        promise44Which();
        promise44CountedFromThenOn();
        promise44ManyOfEach();
        promise44NoFindings();
        EDGE.end();
    }

    private static void same(String what, SealPrints x, SealPrints y) {
        EDGE.due(what, Samples.told(x).equals(Samples.told(y)) ? 1 : 0, 1);
    }

    private static void promise40() {
        EDGE.acts("40 of none", 1, Samples::empty, x -> x.image());
        EDGE.acts("40 of twelve", 1, Samples::full, x -> x.image());
        SealPrints x = EDGE.acts("40 one is kept already", 1, Samples::few, y -> y.image());
        EDGE.due("40 the archive stays", x.count(0), 3);
        EDGE.due("40 THE TAPE stays", x.count(2), 37);
        SealPrints y = Samples.few();
        y.image();
        y.image();
        x = Samples.few();
        x.image();
        same("40 once or twice is the same", x, y);
    }

    /** Each single change after an image is taken back, whatever it is. */
    private static void promise40EachPart() {
        Edge.Call[] changes = {x -> x.print(0, 0), x -> x.set(0, 1, 9999), x -> x.set(2, 1, 1),
            x -> x.set(0, 2, 2000), x -> x.set(2, 2, 0), x -> x.scratch(0, 39, true),
            x -> x.scratch(2, 0, false), x -> x.look(0), x -> x.turn(2, 5), x -> x.slack(0),
            x -> x.slack(999), x -> x.dates(2)};
        for (int k = 0; k < changes.length; k++) {
            SealPrints x = Samples.few();
            x.image();
            changes[k].on(x);
            EDGE.due("41 change " + k + " is taken back", x.undo(), 3);
            SealPrints y = Samples.few();
            y.image();
            same("41 change " + k + " is taken back", x, y);
        }
    }

    private static void promise41None() {
        EDGE.refused("41 NONE: nothing is kept", Check.NONE, Samples::empty, x -> x.undo());
        EDGE.refused("41 NONE: nothing is kept", Check.NONE, () -> Check.withPrints(12),
                x -> x.undo());
        EDGE.refused("41 NONE: it is torn", Check.NONE, () -> {
            SealPrints x = Samples.few();
            x.tear();
            return x;
        }, x -> x.undo());
        EDGE.acts("41 kept anew", 3, () -> {
            SealPrints x = Samples.few();
            x.tear();
            x.image();
            return x;
        }, x -> x.undo());
    }

    private static void promise41TheLatestStays() {
        SealPrints x = EDGE.acts("41 one print was kept", 1, Samples::few, y -> y.undo());
        EDGE.due("41 it is as it was", x.of(0, 0), 5);
        EDGE.due("41 its slack", x.count(3), 5);
        EDGE.due("41 it stays", x.undo(), 1);
        x.print(0, 0);
        EDGE.due("41 it stays", x.undo(), 1);
        x.print(0, 0);
        x.image();
        x.print(0, 0);
        EDGE.due("41 the latest", x.undo(), 2);
        EDGE.due("41 the latest alone", x.undo(), 2);
        x.scratch(0, 39, true);
        x.undo();
        EDGE.due("41 what is changed after an undo isn't kept", x.marks(0, 0),
                Check.places(1, 7));
    }

    private static void promise41NoneToTwelve() {
        for (int n : new int[] {0, 1, 11, 12}) {
            SealPrints x = Check.withPrints(n);
            x.image();
            Check.tell(x, "print;print seen");
            x.print(0, 0);
            EDGE.due("41 how many PRINTS: " + n, x.undo(), n);
            EDGE.due("41 there are so many", x.count(0), n);
            EDGE.due("41 the last is there", x.of(n - 1, 1), n == 0 ? Check.BEYOND : 1000);
            EDGE.due("41 the next isn't", x.of(n, 1), Check.BEYOND);
        }
        SealPrints x = new SealPrints();
        x.image();
        for (int p = 0; p < 12; p++) {
            x.print(0, -1L);
        }
        x.undo();
        EDGE.due("41 there is room again", x.print(0, 0), 0);
        SealPrints y = Check.withPrints(12);
        y.image();
        y.undo();
        EDGE.due("41 it is full again", y.print(0, 0), Check.FULL);
    }

    private static void promise41WhatIsNotKept() {
        SealPrints x = Samples.few();
        x.wipe();
        x.feed('#', 1);
        x.sheet(3, 8, 2);
        x.write(2, 3, 99);
        x.undo();
        EDGE.due("40 THE TAPE not", x.count(2), 1);
        EDGE.due("40 sheets not", x.show(3), 1);
        EDGE.due("40 their numbers not", x.write(2, 3, 0), 99);
        EDGE.due("40 bytes of THE TAPE not", x.text(), -1);
    }

    private static void promise42() {
        EDGE.asks("42 nothing was", 0, Samples::empty, x -> x.tear());
        SealPrints x = EDGE.acts("42 something was", 1, Samples::few, y -> y.tear());
        EDGE.due("42 nothing is", x.tear(), 0);
        EDGE.due("42 the archive stays", x.count(0), 3);
        EDGE.acts("42 of none", 1, () -> {
            SealPrints y = new SealPrints();
            y.image();
            return y;
        }, y -> y.tear());
        EDGE.acts("42 two images, one act", 1, () -> {
            SealPrints y = Samples.few();
            y.image();
            return y;
        }, y -> y.tear());
        EDGE.acts("42 after an undo", 1, () -> {
            SealPrints y = Samples.few();
            y.undo();
            return y;
        }, y -> y.tear());
    }

    private static void promise43What() {
        long[] due = {3, 1, 37, 33, 7};
        for (int k = 0; k < 5; k++) {
            int what = k;
            EDGE.asks("43 what " + what, due[what], Samples::few, x -> x.count(what));
        }
        EDGE.beyond("43 BEYOND: another what", Samples::few, (x, what) -> x.count(what), -1, 5, 6,
                32, Edge.LEAST, Edge.GREATEST);
        EDGE.beyond("43 BEYOND: another what, of none", Samples::empty,
                (x, what) -> x.count(what), -1, 5);
    }

    private static void promise43LeastAndGreatest() {
        long[] least = {0, 0, 0, 20, 0};
        for (int what = 0; what < 5; what++) {
            EDGE.due("43 at first, what " + what, new SealPrints().count(what), least[what]);
        }
        SealPrints x = new SealPrints();
        for (int p = 0; p < 12; p++) {
            x.print(5, -1L);
            x.look(p);
        }
        for (int k = 0; k < 30; k++) {
            x.feed(0, 4);
        }
        x.slack(999);
        long[] greatest = {12, 12, 120, 999, 480};
        for (int what = 0; what < 5; what++) {
            EDGE.due("43 at most, what " + what, x.count(what), greatest[what]);
        }
        x.slack(0);
        EDGE.due("43 SLACK 0", x.count(3), 0);
    }

    private static void promise44Which() {
        for (int which = -1; which <= 6; which++) {
            int of = which;
            EDGE.asks("44 which " + which, 0, Samples::few, x -> x.status(of));
        }
        EDGE.beyond("44 BEYOND: another one", Samples::few, (x, which) -> x.status(which), -2, 7,
                8, -3, 32, Edge.LEAST, Edge.GREATEST);
    }

    private static void promise44CountedFromThenOn() {
        SealPrints x = new SealPrints();
        EDGE.due("44 none", x.status(0), 0);
        EDGE.due("44 another one", x.status(7), Check.BEYOND);
        EDGE.due("44 counted from then on", x.status(0), 1);
        EDGE.due("44 and of all", x.status(-1), 1);
        EDGE.due("44 another one", x.status(-2), Check.BEYOND);
        EDGE.due("44 counted from then on", x.status(-1), 2);
        x.image();
        x.tear();
        x.undo();
        EDGE.due("44 NONE is another count", x.status(0), 2);
        EDGE.due("44 NONE", x.status(3), 1);
        x.image();
        x.look(0);
        x.undo();
        EDGE.due("44 undo() takes none back", x.status(-1), 4);
        EDGE.due("44 an object of its own", new SealPrints().status(-1), 0);
    }

    private static void promise44ManyOfEach() {
        Edge.Call[] finds = {x -> x.slack(-1), x -> x.print(0, 0), x -> x.as(0, 1),
            x -> x.ith(0, 0), x -> x.falseDate(0), x -> x.dates(3), x -> x.orders(511)};
        for (int which = 0; which < 7; which++) {
            SealPrints x = Samples.full();
            for (int k = 1; k <= 40; k++) {
                finds[which].on(x);
                EDGE.due("44 " + k + " of which " + which, x.status(which), k);
            }
            long others = 0;
            for (int other = 0; other < 7; other++) {
                others += other == which ? 0 : x.status(other);
            }
            EDGE.due("44 none of another", others, 0);
            EDGE.due("44 of all", x.status(-1), 40);
        }
    }

    /** Answers that look like findings, or tell of nothing, and are none. */
    private static void promise44NoFindings() {
        SealPrints x = new SealPrints();
        x.sheet(0, 64, 1);
        for (long finding = Check.BEYOND; finding >= Check.SIZE; finding--) {
            x.write(0, 0, finding);
            EDGE.due("44 a number like a finding", x.write(0, 0, 0), finding);
        }
        x.text();
        Check.tell(x, "#");
        x.tear();
        x.print(2, 0);
        x.deep(0);
        x.kind(0);
        EDGE.due("44 none of these is a finding", x.status(-1), 0);
    }
}
