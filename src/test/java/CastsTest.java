/** Promises 26 to 30: casts and looks. */
public final class CastsTest {
    private static final Check CHECK = new Check("CastsTest");

    public static void main(String[] args) {
        promise26CastOf();
        promise27Deep();
        promise28Tell();
        promise29Kind();
        promise30Pairs();
        afterUndo();
        CHECK.end();
    }

    private static void due(String what, long got, long want) {
        CHECK.due(what, got, want);
    }

    private static void promise26CastOf() {
        SealPrints x = new SealPrints();
        x.print(2, 5);
        x.print(0, 5);
        x.print(1, 5);
        int[][] byWidths = {{959, 0}, {960, 1}, {970, 1}, {980, 1}, {981, 0}};
        for (int[] each : byWidths) {
            x.set(0, 1, each[0]);
            due("26 width " + each[0], x.castOf(0), each[1] == 1 ? 1 : Check.NONE);
        }
        x.set(0, 1, 970);
        x.set(1, 2, 1);
        due("26 a later one isn't it", x.castOf(0), 2);
        x.set(0, 2, 1);
        due("26 of the same year it is", x.castOf(0), 1);
        x.scratch(1, 39, true);
        due("26 the same marks, hidden ones, too", x.castOf(0), 2);
        x.scratch(2, 0, false);
        due("26 none", x.castOf(0), Check.NONE);
        due("26 no cast: a print", x.castOf(1), Check.STATE);
        due("26 no cast: a burnt one", x.castOf(2), Check.STATE);
        x.turn(0, 4);
        due("26 no cast: a recut one", x.castOf(0), Check.STATE);
        x.turn(0, 5);
        due("26 no cast: a melted one", x.castOf(0), Check.STATE);
        x.turn(0, 3);
        x.scratch(2, 0, true);
        due("26 a forged one", x.castOf(0), 2);
        x.turn(2, 3);
        due("26 from a forged one", x.castOf(0), 2);
        due("26 no print 3", x.castOf(3), Check.BEYOND);
        due("26 no print -1", x.castOf(-1), Check.BEYOND);
    }

    private static void promise27Deep() {
        SealPrints x = new SealPrints();
        // Each is cast from the one ahead of it: 97 by 100 of its width, rounded.
        int[] widths = {9999, 9699, 9408, 9126, 8852, 8586, 8328, 8078, 7836, 7601, 7373, 7152};
        for (int p = 0; p < 12; p++) {
            x.print(p == 0 ? 0 : 2 + p % 2, 3);
            x.set(p, 1, widths[p]);
            due("27 the " + p + "-th of a chain", x.deep(p), p);
        }
        due("27 castOf has the least", x.castOf(11), 10);
        x.turn(5, 1);
        due("27 no further than to what is no cast", x.deep(8), 3);
        due("27 no cast", x.deep(5), 0);
        due("27 no print 12", x.deep(12), Check.BEYOND);
        due("27 no print -1", x.deep(-1), Check.BEYOND);
        due("27 no finding inside is counted", x.status(-1), 2);
        SealPrints y = new SealPrints();
        y.print(2, 1);
        y.print(2, 1);
        due("27 two alike, neither from the other", y.deep(0) + y.deep(1), 0);
    }

    private static void promise28Tell() {
        due("28 no prints", new SealPrints().tell(), Check.NONE);
        due("28 all alike", Check.withPrints(3).tell(), Check.NONE);
        SealPrints x = new SealPrints();
        x.print(0, Check.places(30));
        x.print(0, 0);
        x.print(0, 0);
        x.look(0);
        due("28 either would tell: the least", x.tell(), 1);
        x.look(1);
        due("28 another look changes nothing more", x.tell(), Check.NONE);
        due("28 seen ones stay as they were", x.count(1), 2);
        x = new SealPrints();
        x.print(0, Check.places(31));
        x.print(0, 0);
        x.look(1);
        due("28 a print told by its own marks", x.tell(), 0);
        due("28 it isn't seen by that", x.of(0, 3), 0);
        due("28 fewest as before", x.fewest(3), 1);
        x = new SealPrints();
        x.print(0, Check.places(1));
        x.print(0, Check.places(1, 30));
        x.look(0);
        due("28 a mark that only comes tells nothing", x.tell(), Check.NONE);
        due("28 counted", x.status(3), 1);
        promise28OfAll();
    }

    private static void promise28OfAll() {
        SealPrints x = new SealPrints();
        x.print(0, Check.places(30));
        x.print(0, 0);
        x.print(0, 0);
        x.print(0, 0);
        x.set(3, 1, 2000);
        x.look(0);
        x.look(1);
        due("28 a ring more for 1 already: 2 goes to it", x.tell(), Check.NONE);
        x.scratch(2, 2, true);
        x.scratch(1, 5, true);
        due("28 but not if it fits with 0 alone", x.tell(), 2);
        due("28 as many rings as before", x.fewest(15), 3);
        // By place 30, print 0 fits with 2 and with 3 as long as these are not seen, 1 with both;
        // 2 and 3 do not fit. Either may lose 0, but not both at once.
        x = new SealPrints();
        x.print(0, Check.places(30));
        x.print(0, 0);
        x.print(0, Check.places(1));
        x.print(0, Check.places(2));
        x.look(0);
        x.look(1);
        due("28 each look for itself alone", x.tell(), Check.NONE);
        x.look(2);
        due("28 two of them change it", x.tell(), 3);
    }

    private static void promise29Kind() {
        SealPrints x = new SealPrints();
        x.print(0, 0);
        due("29 alone", x.kind(0), 0);
        x.turn(0, 5);
        due("29 alone, the least all the same", x.kind(0), 0);
        due("29 it stays what it is", x.of(0, 0), 5);
        x = Check.withPrints(4);
        int[][] byWidths = {{900, 1}, {961, 3}, {1000, 0}, {970, 2}, {720, 5}, {500, 0}};
        x.slack(0);
        for (int[] each : byWidths) {
            x.set(3, 1, each[0]);
            due("29 width " + each[0], x.kind(3), each[1]);
        }
        x = new SealPrints();
        x.print(0, 1);
        x.print(0, 0);
        due("29 recut, behind a mark that it lost", x.kind(1), 4);
        due("29 as no kind", x.kind(0), 0);
        x.slack(999);
        due("29 burnt ones still show it", x.kind(0), 0);
        x.scratch(0, 0, false);
        x.scratch(0, 1, true);
        due("29 burnt, which hides it", x.kind(0), 1);
        x.set(1, 2, 1);
        x.set(0, 2, 2);
        due("29 by years it may be ahead", x.kind(1), 0);
        due("29 no print 2", x.kind(2), Check.BEYOND);
        due("29 no print -1", x.kind(-1), Check.BEYOND);
    }

    private static void promise30Pairs() {
        due("30 none", new SealPrints().pairs(), 0);
        due("30 one print", Check.withPrints(1).pairs(), 0);
        due("30 twelve", Check.withPrints(12).pairs(), 66);
        SealPrints x = new SealPrints();
        x.print(0, 3);
        x.print(0, 1);
        x.print(0, 3);
        due("30 by numbers", x.pairs(), 2);
        x.set(0, 2, 7);
        due("30 by years", x.pairs(), 3);
        x.set(1, 1, 1021);
        due("30 by widths", x.pairs(), 1);
    }

    /** Prints that are gone by an undo may not be counted with. */
    private static void afterUndo() {
        SealPrints x = Check.withPrints(3);
        x.set(2, 1, 2000);
        x.image();
        for (int p = 3; p < 12; p++) {
            x.print(0, 0);
        }
        due("30 pairs ahead of the undo", x.pairs(), 55);
        x.kind(0);
        x.undo();
        due("30 pairs after an undo", x.pairs(), 1);
        due("29 kind after an undo", x.kind(0), 0);
        due("19 fewest after an undo", x.fewest(7), 2);
        due("20 alone after an undo", x.alone(7), 4);
        due("28 tell after an undo", x.tell(), Check.NONE);
    }
}
