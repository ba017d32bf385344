/** The bounds that 'Terms' tells: findings and their order, places, widths, slack, rows, years. */
public final class EdgeTermsTest {
    private static final Edge EDGE = new Edge("EdgeTermsTest");
    private static final String[] KINDS = {"PRINT", "BURNT", "CAST", "FORGED", "RECUT", "MELTED"};

    public static void main(String[] args) {
        findingsAreTheseNumbers();
        findingsOfPrintsInTheOrderAsked();
        findingsOfSetsInTheOrderAsked();
        findingsOfCastsAndTapeInTheOrderAsked();
        findingsOfSheetsInTheOrderAsked();
        the512thCallIsAnswered();
        quotientsAreCut();
        setsAreToldByBits();
        printsAreAtMostTwelve();
        atFirst();
        hidesByPlaces();
        showsWhatItDoesNotHide();
        marksOnlyCome();
        unlikeByAtMostSlack();
        eachAheadOfEachLaterOne();
        ofOneYearByNumbers();
        sheetsZeroToThree();
        EDGE.end();
    }

    private static void findingsAreTheseNumbers() {
        EDGE.refused("Terms: BEYOND", -1000000001L, Samples::few, x -> x.print(6, 0));
        EDGE.refused("Terms: FULL", -1000000002L, Samples::full, x -> x.print(0, 0));
        EDGE.refused("Terms: KIND", -1000000003L, Samples::few, x -> x.as(0, 1));
        EDGE.refused("Terms: NONE", -1000000004L, Samples::few, x -> x.ith(7, 7));
        EDGE.refused("Terms: STATE", -1000000005L, Samples::few, x -> x.castOf(0));
        EDGE.refused("Terms: MISSING", -1000000006L, Samples::few, x -> x.read(3));
        EDGE.refused("Terms: SIZE", -1000000007L, Samples::few, x -> x.sheet(0, 8, -1));
        EDGE.refused("Terms: BEYOND as a long", -1000000001L, Samples::few, x -> x.marks(3, 0));
        EDGE.refused("Terms: BEYOND as a long", -1000000001L, Samples::few, x -> x.had(8, 0));
        EDGE.refused("Terms: BEYOND as a long", -1000000001L, Samples::few, x -> x.hadNot(8, 0));
        EDGE.refused("Terms: BEYOND as a long", -1000000001L, Samples::few, x -> x.write(4, 0, 0));
        EDGE.refused("Terms: MISSING as a long", -1000000006L, Samples::few,
                x -> x.write(3, 0, 0));
    }

    private static void findingsOfPrintsInTheOrderAsked() {
        EDGE.refused("2 BEYOND ahead of FULL", Check.BEYOND, Samples::full, x -> x.print(6, 0));
        EDGE.refused("2 BEYOND ahead of FULL", Check.BEYOND, Samples::full, x -> x.print(-1, 0));
        EDGE.refused("9 BEYOND (kind) ahead of KIND", Check.BEYOND, Samples::few,
                x -> x.as(0, 6));
        EDGE.refused("9 BEYOND (print) ahead of KIND", Check.BEYOND, Samples::few,
                x -> x.as(3, 5));
        EDGE.refused("14 BEYOND ahead of NONE", Check.BEYOND, () -> Samples.wide(1, 9999),
                x -> x.slackFor(1, 1));
        EDGE.refused("15 BEYOND ahead of STATE", Check.BEYOND, () -> Samples.wide(1, 9999),
                x -> x.came(0, 2));
    }

    private static void findingsOfSetsInTheOrderAsked() {
        EDGE.refused("21 BEYOND ahead of SIZE", Check.BEYOND, Samples::full,
                x -> x.orders(8191));
        EDGE.refused("22 BEYOND (set) ahead of SIZE", Check.BEYOND, Samples::full,
                x -> x.ith(8191, 0));
        EDGE.refused("22 BEYOND (i) ahead of SIZE", Check.BEYOND, Samples::full,
                x -> x.ith(511, 8));
        EDGE.refused("22 BEYOND (i) ahead of NONE", Check.BEYOND, Samples::few,
                x -> x.ith(0, -1));
        EDGE.refused("22 SIZE ahead of NONE (no order)", Check.SIZE, Samples::full,
                x -> x.ith(4095, 0));
        EDGE.refused("23 BEYOND ahead of STATE", Check.BEYOND, () -> Check.withPrints(2),
                x -> x.falseDate(4));
        EDGE.refused("23 STATE ahead of NONE", Check.STATE, () -> Check.withPrints(2),
                x -> x.falseDate(3));
    }

    private static void findingsOfCastsAndTapeInTheOrderAsked() {
        EDGE.refused("26 BEYOND ahead of STATE", Check.BEYOND, () -> Check.withPrints(1),
                x -> x.castOf(1));
        EDGE.refused("26 STATE ahead of NONE", Check.STATE, () -> Check.withPrints(1),
                x -> x.castOf(0));
        EDGE.refused("31 BEYOND ahead of FULL", Check.BEYOND, EdgeTermsTest::fullTape,
                x -> x.feed(0, 5));
        EDGE.refused("31 BEYOND ahead of FULL", Check.BEYOND, EdgeTermsTest::fullTape,
                x -> x.feed(0, 0));
    }

    private static SealPrints fullTape() {
        SealPrints x = new SealPrints();
        for (int k = 0; k < 30; k++) {
            x.feed(0x20202020, 4);
        }
        return x;
    }

    private static void findingsOfSheetsInTheOrderAsked() {
        EDGE.refused("34 BEYOND (sheet) ahead of SIZE", Check.BEYOND, Samples::few,
                x -> x.sheet(4, 8, -1));
        EDGE.refused("34 BEYOND (bits) ahead of SIZE", Check.BEYOND, Samples::few,
                x -> x.sheet(0, 9, -1));
        EDGE.refused("35 BEYOND (sheet) ahead of MISSING", Check.BEYOND, Samples::empty,
                x -> x.write(4, 0, 1));
        EDGE.refused("35 MISSING ahead of BEYOND (number)", Check.MISSING, Samples::few,
                x -> x.write(3, -1, 1));
        EDGE.refused("36 BEYOND (sheet) ahead of MISSING", Check.BEYOND, Samples::few,
                x -> x.copy(3, 0, 4, 0, 1));
        EDGE.refused("36 BEYOND (the other sheet) ahead of MISSING", Check.BEYOND, Samples::few,
                x -> x.copy(-1, 0, 3, 0, 1));
        EDGE.refused("36 MISSING ahead of KIND and BEYOND", Check.MISSING, Samples::few,
                x -> x.copy(0, -1, 3, 0, 99));
        EDGE.refused("36 KIND ahead of BEYOND", Check.KIND, Samples::few,
                x -> x.copy(0, -1, 1, -1, -1));
        EDGE.refused("37 BEYOND ahead of MISSING", Check.BEYOND, Samples::empty, x -> x.dates(4));
        EDGE.refused("38 BEYOND ahead of MISSING", Check.BEYOND, Samples::empty, x -> x.show(4));
        EDGE.refused("39 BEYOND ahead of MISSING", Check.BEYOND, Samples::empty, x -> x.read(4));
    }

    /** An object is used for at most 512 calls: the last of them is answered as any other. */
    private static void the512thCallIsAnswered() {
        SealPrints x = new SealPrints();
        for (int call = 1; call < 512; call++) {
            x.count(5);
        }
        EDGE.due("the 512th call", x.status(-1), 511);
        SealPrints y = Samples.full();
        for (int call = 0; call < 400; call++) {
            y.fewest(4095);
        }
        EDGE.due("many calls of one kind", y.print(0, 0), Check.FULL);
    }

    private static void quotientsAreCut() {
        int[][] byWidths = {{1, 1, 1, 1}, {8, 8, 8, 10}, {9, 10, 9, 12}, {10, 11, 10, 13},
            {71, 78, 73, 97}, {72, 80, 74, 100}, {73, 81, 75, 101}, {89, 98, 91, 122},
            {90, 100, 92, 125}, {91, 101, 93, 126}, {96, 106, 98, 132}, {97, 107, 100, 133},
            {98, 108, 101, 135}, {9998, 11108, 10307, 13885}, {9999, 11110, 10308, 13887}};
        for (int[] w : byWidths) {
            int[] due = {w[0], w[1], w[2], w[2] + 10, w[0], w[3]};
            for (int kind = 0; kind < 6; kind++) {
                SealPrints x = new SealPrints();
                x.print(kind, 0);
                x.set(0, 1, w[0]);
                EDGE.due("Terms: TRUE WIDTH of " + w[0] + " as " + KINDS[kind], x.of(0, 4),
                        due[kind]);
            }
        }
    }

    private static void setsAreToldByBits() {
        for (int p = 0; p < 12; p++) {
            int one = 1 << p;
            EDGE.asks("Terms: the set of print " + p, one, Samples::full, x -> x.best(one));
        }
    }

    private static void printsAreAtMostTwelve() {
        SealPrints x = new SealPrints();
        for (int p = 0; p < 12; p++) {
            EDGE.due("1.: PRINTS 0, 1, ..", x.print(0, 0), p);
        }
        EDGE.refused("1.: at most 12", Check.FULL, () -> Check.withPrints(12), y -> y.print(5, 1));
        SealPrints y = Check.withPrints(11);
        EDGE.due("1.: a 12th from a text", Check.tell(y, "print"), 1);
        EDGE.due("1.: no 13th from a text", Check.tell(y, "print"), -1);
    }

    private static void atFirst() {
        for (int kind = 0; kind < 6; kind++) {
            SealPrints x = new SealPrints();
            x.print(kind, 7);
            EDGE.due("1.: WIDTH 1000 at first", x.of(0, 1), 1000);
            EDGE.due("1.: YEAR 0 at first", x.of(0, 2), 0);
            EDGE.due("1.: not SEEN at first", x.of(0, 3), 0);
        }
        EDGE.due("1.: SLACK 20 at first", new SealPrints().slack(0), 20);
    }

    /** Every place, for every kind, looked at or not. */
    private static void hidesByPlaces() {
        for (int kind = 0; kind < 6; kind++) {
            SealPrints unseen = new SealPrints();
            unseen.print(kind, 0);
            SealPrints seen = new SealPrints();
            seen.print(kind, -1L);
            seen.look(0);
            for (int k = 0; k < 40; k++) {
                boolean byFire = (kind == 1 || kind == 5) && k % 2 == 1 || kind == 5 && k >= 20;
                EDGE.due("HIDES, " + KINDS[kind] + " not SEEN, at " + k,
                        unseen.marks(0, 2) >> k & 1, byFire || k >= 30 ? 1 : 0);
                EDGE.due("HIDES, " + KINDS[kind] + " SEEN, at " + k,
                        seen.marks(0, 2) >> k & 1, byFire ? 1 : 0);
            }
            EDGE.due("HIDES nothing above PLACE 39", unseen.marks(0, 2) >>> 40, 0);
            EDGE.due("SHOWS nothing above PLACE 39", seen.marks(0, 1) >>> 40, 0);
        }
    }

    private static void showsWhatItDoesNotHide() {
        int[] lastShown = {29, 28, 29, 29, 29, 18};
        int[] firstHidden = {30, 1, 30, 30, 30, 1};
        for (int kind = 0; kind < 6; kind++) {
            SealPrints x = new SealPrints();
            x.print(kind, Check.places(lastShown[kind], firstHidden[kind], 39));
            EDGE.due("SHOWS, " + KINDS[kind], x.marks(0, 1), 1L << lastShown[kind]);
            EDGE.due("SHOWS one, " + KINDS[kind], x.of(0, 5), 1);
        }
    }

    private static void marksOnlyCome() {
        for (int k = 0; k < 40; k++) {
            long mark = 1L << k;
            EDGE.due("b SHOWS all that a SHOWS, at " + k, seen(0, mark, 0, mark).ahead(0, 1), 1);
            EDGE.due("a mark goes at " + k, seen(0, mark, 0, 0).ahead(0, 1), 0);
            EDGE.due("a mark comes at " + k, seen(0, 0, 0, mark).ahead(0, 1), 1);
            EDGE.due("b is RECUT, at " + k, seen(0, mark, 4, 0).ahead(0, 1), 1);
            EDGE.due("a is RECUT, at " + k, seen(4, mark, 0, 0).ahead(0, 1), 0);
            EDGE.due("b HIDES the odd ones, at " + k, seen(0, mark, 1, 0).ahead(0, 1), k % 2);
            EDGE.due("a HIDES the odd ones, at " + k, seen(1, mark, 0, 0).ahead(0, 1), k % 2);
        }
    }

    private static SealPrints seen(int kindA, long marksA, int kindB, long marksB) {
        SealPrints x = Samples.two(kindA, marksA, kindB, marksB);
        x.look(0);
        x.look(1);
        return x;
    }

    private static void unlikeByAtMostSlack() {
        int[] slacks = {0, 1, 19, 20, 21, 998, 999};
        for (int slack : slacks) {
            for (int way = -1; way <= 1; way += 2) {
                SealPrints x = Samples.wide(5000, 5000 + way * slack);
                x.slack(slack);
                EDGE.due("unlike by SLACK " + slack, x.order(0, 1), 3);
                x.set(1, 1, 5000 + way * (slack + 1));
                EDGE.due("unlike by one more than SLACK " + slack, x.order(0, 1), 0);
            }
        }
        EDGE.due("unlike by 20, SLACK as at first", Samples.wide(1000, 1020).ahead(0, 1), 1);
        EDGE.due("unlike by 21, SLACK as at first", Samples.wide(1000, 1021).ahead(0, 1), 0);
        SealPrints x = Samples.two(0, 1, 4, 2);
        x.slack(0);
        EDGE.due("b is RECUT, alike", x.ahead(0, 1), 1);
        x.set(1, 1, 1001);
        EDGE.due("b is RECUT: widths are asked", x.ahead(0, 1), 0);
    }

    private static void eachAheadOfEachLaterOne() {
        EDGE.asks("a ROW: neighbours alone do not make it", 0, () -> Samples.wide(980, 1000, 1020),
                x -> x.ring(7));
        EDGE.asks("a ROW: neighbours are", 1, () -> Samples.wide(980, 1000, 1020),
                x -> x.ring(3));
        EDGE.asks("a ROW: neighbours are", 1, () -> Samples.wide(980, 1000, 1020),
                x -> x.ring(6));
        EDGE.asks("a ROW: its ends are asked, too", 1, () -> Samples.wide(980, 1000, 1000),
                x -> x.ring(7));
        EDGE.asks("a ROW of none", 1, Samples::empty, x -> x.ring(0));
        EDGE.asks("a ROW of one", 1, Samples::few, x -> x.ring(4));
    }

    private static void ofOneYearByNumbers() {
        int[][] years = {{7, 7}, {0, 0}, {2000, 2000}, {6, 7}, {0, 2000}, {1999, 2000}};
        for (int[] y : years) {
            EDGE.due("2.: BY YEARS " + y[0] + ", " + y[1], dated(y[0], y[1]).ring(3), 1);
        }
        int[][] others = {{7, 6}, {1, 0}, {2000, 0}, {2000, 1999}};
        for (int[] y : others) {
            EDGE.due("2.: BY YEARS " + y[0] + ", " + y[1], dated(y[0], y[1]).ring(3), 0);
        }
    }

    /** Two prints, the first of which can be ahead, but not the other one. */
    private static SealPrints dated(int one, int other) {
        SealPrints x = Samples.two(0, 1, 0, 3);
        Samples.setAll(x, 2, one, other);
        return x;
    }

    private static void sheetsZeroToThree() {
        for (int s = 0; s < 4; s++) {
            int sheet = s;
            EDGE.refused("3.: MISSING at first", Check.MISSING, Samples::empty,
                    x -> x.show(sheet));
            EDGE.acts("3.: at most 40 numbers", 40, Samples::empty, x -> x.sheet(sheet, 64, 40));
            EDGE.refused("3.: not 41", Check.BEYOND, Samples::few, x -> x.sheet(sheet, 64, 41));
        }
        EDGE.refused("3.: no sheet 4", Check.BEYOND, Samples::few, x -> x.sheet(4, 8, 1));
        EDGE.refused("3.: no sheet -1", Check.BEYOND, Samples::few, x -> x.sheet(-1, 8, 1));
    }
}
