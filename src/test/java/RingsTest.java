/** Promises 16 to 25: rings. */
public final class RingsTest {
    private static final Check CHECK = new Check("RingsTest");

    public static void main(String[] args) {
        promise16Ring();
        promise17And18MostAndBest();
        promise19Fewest();
        promise20Alone();
        promise21Orders();
        promise22Ith();
        promise23FalseDate();
        promise24Had();
        promise25HadNot();
        wrongSets();
        CHECK.end();
    }

    private static void due(String what, long got, long want) {
        CHECK.due(what, got, want);
    }

    private static void promise16Ring() {
        SealPrints x = Samples.marked(1, 3, 7, 5);
        due("16 empty", x.ring(0), 1);
        due("16 one alone", x.ring(8), 1);
        due("16 marks come", x.ring(7), 1);
        due("16 one mark gone", x.ring(15), 0);
        due("16 two with a gap", x.ring(9), 1);
        x.set(3, 2, 15);
        due("16 by years: 1, 5, 3, 7", x.ring(15), 0);
        due("16 by years: 1, 5, 7", x.ring(13), 1);
        x.set(0, 2, 30);
        due("16 of one year by numbers", x.ring(5), 1);
        x.set(0, 2, 31);
        due("16 later by a year", x.ring(5), 0);
        x = Samples.wide(1000, 1020, 1040);
        due("16 every two are asked", x.ring(7), 0);
        due("16 neighbours fit", x.ring(3) + x.ring(6), 2);
        x = Samples.marked(1, 0, 1);
        x.turn(1, 4);
        due("16 a recut one between", x.ring(7), 1);
        x = Samples.marked(1, 0, 0);
        x.turn(1, 4);
        due("16 each later one is asked, behind a recut one, too", x.ring(7), 0);
    }

    private static void promise17And18MostAndBest() {
        SealPrints x = Samples.marked(1, 2, 3, 7, 4);
        due("17 empty", x.most(0), 0);
        due("18 empty", x.best(0), 0);
        due("17 of all", x.most(31), 3);
        due("18 of all, the least of two", x.best(31), 0b01101);
        due("18 without print 0", x.best(30), 0b01110);
        due("17 of two that are none", x.most(3), 1);
        due("18 of two that are none", x.best(3), 1);
        due("18 the least as a set, not the first by years", x.best(0b10110), 0b00110);
        x = Samples.wide(1000, 2000, 1000, 2000, 1000, 2000, 1000, 2000, 3000, 3000, 3000, 3000);
        due("17 of twelve", x.most(4095), 4);
        due("18 the least of three", x.best(4095), 0b1010101);
        due("18 without print 0", x.best(4094), 0b10101010);
        due("17 twelve of one ring", Check.withPrints(12).most(4095), 12);
        due("18 twelve of one ring", Check.withPrints(12).best(4095), 4095);
    }

    private static void promise19Fewest() {
        SealPrints x = Samples.wide(1000, 1020, 1040, 1060);
        due("19 empty", x.fewest(0), 0);
        due("19 one", x.fewest(4), 1);
        due("19 a chain of four", x.fewest(15), 2);
        due("19 a chain of three", x.fewest(7), 2);
        due("19 both ends", x.fewest(9), 2);
        x = Samples.wide(1000, 2000, 3000, 4000, 5000, 6000, 7000, 8000, 9000, 100, 200, 300);
        due("19 twelve rings", x.fewest(4095), 12);
        due("19 one ring", Check.withPrints(12).fewest(4095), 1);
        // Dealt one by one to the first ring that takes it, these would make three rings.
        x = Samples.wide(1020, 1040, 1000, 1060);
        due("19 not by the first that fits", x.fewest(15), 2);
        x = Samples.wide(1020, 1000, 1040, 1020);
        due("19 two that fit with a third, not with each other", x.fewest(7), 2);
        due("19 every print of a set with gaps", x.fewest(0b0101), 1);
        due("19 and of another", x.fewest(0b0110), 2);
        due("19 the last behind a gap", x.fewest(0b1001), 1);
        x = Samples.wide(1000, 1000, 2000, 1000, 3000);
        due("19 behind two that are not of the set", x.fewest(0b10100), 2);
        due("19 the one behind a gap", x.fewest(0b10101), 3);
        x = Samples.marked(1, 2, 4, 8, 16, 31);
        due("19 five marks apart", x.fewest(63), 5);
    }

    private static void promise20Alone() {
        SealPrints x = Samples.wide(1000, 1020, 1040, 2000);
        due("20 empty", x.alone(0), 0);
        due("20 one", x.alone(2), 2);
        due("20 of all", x.alone(15), 8);
        due("20 of both ends", x.alone(5), 5);
        due("20 of three", x.alone(13), 13);
        x = Samples.marked(3, 1);
        due("20 by years they aren't", x.alone(3), 3);
        x.set(0, 2, 30);
        due("20 by years they are", x.alone(3), 0);
    }

    private static void promise21Orders() {
        due("21 empty", new SealPrints().orders(0), 1);
        due("21 one", Check.withPrints(1).orders(1), 1);
        due("21 eight alike", Check.withPrints(12).orders(255), 40320);
        due("21 eight of twelve", Check.withPrints(12).orders(0b111100001111), 40320);
        due("21 nine", Check.withPrints(12).orders(511), Check.SIZE);
        due("21 twelve", Check.withPrints(12).orders(4095), Check.SIZE);
        SealPrints x = Samples.marked(7, 3, 1);
        due("21 in one, whatever years", x.orders(7), 1);
        due("21 and by years in none", x.ring(7), 0);
        due("21 two unlike", Samples.marked(1, 2).orders(3), 0);
        due("21 two of three alike", Samples.marked(1, 3, 3).orders(7), 2);
        x = Samples.marked(1, 2);
        x.turn(1, 4);
        due("21 the recut one behind", x.orders(3), 1);
        due("21 the ninth is asked behind BEYOND", Check.withPrints(9).orders(1023), Check.BEYOND);
    }

    private static void promise22Ith() {
        SealPrints x = Samples.marked(7, 3, 1, 3);
        int[] first = {2, 1, 3, 0};
        for (int i = 0; i < 4; i++) {
            due("22 in order", x.ith(15, i), first[i]);
        }
        due("22 no 4th", x.ith(15, 4), Check.NONE);
        due("22 i 7", x.ith(15, 7), Check.NONE);
        due("22 i 8", x.ith(15, 8), Check.BEYOND);
        due("22 i -1", x.ith(15, -1), Check.BEYOND);
        due("22 empty", x.ith(0, 0), Check.NONE);
        due("22 no such order", Samples.marked(1, 2).ith(3, 0), Check.NONE);
        due("22 no such order of more", Samples.marked(1, 3, 2).ith(7, 0), Check.NONE);
        due("22 no such order, though one could lead", Samples.marked(0, 1, 2).ith(7, 0),
                Check.NONE);
        due("22 the only order", Samples.marked(3, 1).ith(3, 0), 1);
        x = Check.withPrints(12);
        for (int i = 0; i < 8; i++) {
            due("22 by numbers", x.ith(0b111111110000, i), 4 + i);
        }
        due("22 nine", x.ith(511, 0), Check.SIZE);
        due("22 nine, i 8", x.ith(511, 8), Check.BEYOND);
        due("22 no print 12", x.ith(4096, 0), Check.BEYOND);
        // 0 ahead of 1 can be, but then 2 stands nowhere: 0 must not come first.
        x = Samples.marked(2, 2, 1);
        x.turn(0, 4);
        x.turn(1, 4);
        due("22 the first order that can be ended", x.ith(7, 0), 2);
        due("22 and on", x.ith(7, 1), 0);
    }

    private static void promise23FalseDate() {
        SealPrints x = Samples.marked(1, 3, 7, 0);
        due("23 the last one", x.falseDate(15), 3);
        due("23 it is of one ring", x.falseDate(7), Check.STATE);
        due("23 empty", x.falseDate(0), Check.STATE);
        due("23 one alone", x.falseDate(8), Check.STATE);
        due("23 of two the least", x.falseDate(9), 0);
        x = Samples.marked(7, 1, 3, 15);
        due("23 into the middle", x.falseDate(15), 0);
        x = Samples.marked(31, 1, 3, 7);
        due("23 to the end", x.falseDate(15), 0);
        x = Samples.marked(1, 2);
        due("23 none fits anywhere", x.falseDate(3), Check.NONE);
        x = Samples.marked(7, 3, 1);
        due("23 two are false", x.falseDate(7), Check.NONE);
        x = Samples.marked(1, 3, 2, 7);
        due("23 others of one ring, but it fits nowhere", x.falseDate(15), Check.NONE);
        x = Samples.marked(1, 15, 3, 7);
        due("23 behind the first", x.falseDate(15), 1);
        x = Samples.marked(15, 7, 3, 1);
        for (int p = 0; p < 4; p++) {
            x.set(p, 2, 40 - p);
        }
        due("23 numbers against years", x.falseDate(15), Check.STATE);
        x.set(1, 2, 50);
        due("23 the row of the others by years", x.falseDate(15), 0);
        x.set(1, 2, 5);
        due("23 and from the front", x.falseDate(15), 1);
        x = Samples.marked(3, 7, 1, 15);
        due("23 to the front", x.falseDate(15), 2);
    }

    private static void promise24Had() {
        SealPrints x = Samples.marked(1, 2, 4, 8, 16);
        due("24 ahead of all", x.had(31, 9), 0);
        due("24 in the year itself", x.had(31, 10), 1);
        due("24 all earlier ones", x.had(31, 49), 15);
        due("24 the last year", x.had(31, 2000), 31);
        due("24 of a set alone", x.had(0b10101, 2000), 21);
        due("24 empty", x.had(0, 2000), 0);
        x.turn(2, 4);
        due("24 from the recut one on", x.had(31, 50), 28);
        due("24 with the recut one", x.had(31, 30), 4);
        due("24 ahead of the recut one", x.had(31, 29), 3);
        due("24 the recut one isn't in the set", x.had(27, 50), 27);
        x.set(3, 2, 30);
        x.set(1, 2, 30);
        due("24 of one year by numbers", x.had(31, 30), 12);
        x.turn(3, 4);
        due("24 the last of two", x.had(31, 50), 24);
        x = Samples.marked(1, 2, 4);
        x.set(0, 2, 9);
        x.set(1, 2, 8);
        x.set(2, 2, 7);
        x.turn(1, 4);
        due("24 numbers against years", x.had(7, 9), 3);
        due("24 numbers against years, earlier", x.had(7, 7), 4);
        x = Samples.marked(Check.places(1, 2, 38));
        x.turn(0, 1);
        due("24 what it shows alone", x.had(1, 10), 4);
        due("24 year -1", x.had(1, -1), Check.BEYOND);
        due("24 year 2001", x.had(1, 2001), Check.BEYOND);
    }

    private static void promise25HadNot() {
        long all = 0xFFFFFFFFFFL;
        long low = 0x3FFFFFFFL;
        SealPrints x = Samples.marked(-1L, -2L, -4L, -8L);
        for (int p = 0; p < 4; p++) {
            x.look(p);
        }
        due("25 from the first on", x.hadNot(15, 0), 7);
        due("25 in the year itself", x.hadNot(15, 40), 7);
        due("25 behind all", x.hadNot(15, 41), 0);
        due("25 of a set alone", x.hadNot(3, 0), 1);
        due("25 of later ones alone", x.hadNot(3, 20), 1);
        due("25 and of no earlier ones", x.hadNot(1, 10), 0);
        due("25 empty", x.hadNot(0, 0), 0);
        x.turn(2, 4);
        due("25 ahead of the recut one", x.hadNot(15, 20), 1);
        due("25 in the year of the recut one", x.hadNot(15, 30), 7);
        due("25 a year ahead of it", x.hadNot(15, 29), 0);
        x.set(1, 2, 30);
        x.set(3, 2, 30);
        due("25 of one year by numbers", x.hadNot(15, 5), 1);
        x = Samples.marked(-2L, -1L);
        x.look(0);
        x.look(1);
        due("25 of all of them", x.hadNot(3, 0), 1);
        x.set(0, 2, 30);
        x.turn(0, 4);
        due("25 numbers against years", x.hadNot(3, 0), 0);
        x.turn(0, 0);
        x.turn(1, 4);
        due("25 the recut one is the first of all", x.hadNot(3, 0), 0);
        due("25 in its year", x.hadNot(3, 20), 1);
        x = Samples.marked(0);
        due("25 what it hides isn't told", x.hadNot(1, 0), low);
        x.look(0);
        due("25 when it is seen", x.hadNot(1, 0), all);
        due("25 year -1", x.hadNot(1, -1), Check.BEYOND);
        due("25 year 2001", x.hadNot(1, 2001), Check.BEYOND);
        due("25 year 2000", x.hadNot(1, 2000), 0);
    }

    private static void wrongSets() {
        int[] wrong = {8, 9, 4096, -1, Integer.MIN_VALUE, 1 << 30, -8};
        for (int set : wrong) {
            SealPrints x = Samples.marked(1, 3, 2);
            due("16 wrong set", x.ring(set), Check.BEYOND);
            due("17 wrong set", x.most(set), Check.BEYOND);
            due("18 wrong set", x.best(set), Check.BEYOND);
            due("19 wrong set", x.fewest(set), Check.BEYOND);
            due("20 wrong set", x.alone(set), Check.BEYOND);
            due("21 wrong set", x.orders(set), Check.BEYOND);
            due("22 wrong set", x.ith(set, 0), Check.BEYOND);
            due("23 wrong set", x.falseDate(set), Check.BEYOND);
            due("24 wrong set", x.had(set, 0), Check.BEYOND);
            due("25 wrong set", x.hadNot(set, 0), Check.BEYOND);
            due("16 to 25 counted", x.status(0), 10);
        }
    }
}
