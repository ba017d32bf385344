/** Promises 40 to 44: images, counts, status. */
public final class ImagesTest {
    private static final Check CHECK = new Check("ImagesTest");

    public static void main(String[] args) {
        promise40And41ImageAndUndo();
        promise41Latest();
        promise41NotTheRest();
        promise42Tear();
        promise43Count();
        promise44Status();
        promise44EachFinding();
        CHECK.end();
    }

    private static void due(String what, long got, long want) {
        CHECK.due(what, got, want);
    }

    private static void promise40And41ImageAndUndo() {
        SealPrints x = new SealPrints();
        due("41 nothing is kept", x.undo(), Check.NONE);
        x.print(3, 5);
        x.set(0, 1, 700);
        x.set(0, 2, 80);
        x.slack(33);
        due("40 kept", x.image(), 1);
        x.turn(0, 0);
        x.set(0, 1, 1);
        x.set(0, 2, 2);
        x.scratch(0, 9, true);
        x.look(0);
        x.slack(44);
        x.print(0, 0);
        due("41 one print", x.undo(), 1);
        due("41 kind", x.of(0, 0), 3);
        due("41 width", x.of(0, 1), 700);
        due("41 year", x.of(0, 2), 80);
        due("41 seen", x.of(0, 3), 0);
        due("41 marks", x.marks(0, 0), 5);
        due("41 slack", x.count(3), 33);
        due("41 the other one is gone", x.of(1, 0), Check.BEYOND);
        x.scratch(0, 9, true);
        due("41 it stays", x.undo(), 1);
        due("41 marks again", x.marks(0, 0), 5);
    }

    private static void promise41Latest() {
        SealPrints x = Check.withPrints(1);
        x.image();
        x.print(0, 1);
        due("40 kept again", x.image(), 1);
        x.print(0, 2);
        due("41 the latest", x.undo(), 2);
        due("41 the latest again", x.undo(), 2);
        SealPrints y = new SealPrints();
        y.image();
        Check.tell(y, "print 1;print 2");
        due("41 an empty one", y.undo(), 0);
        y = Check.withPrints(12);
        y.image();
        due("41 twelve", y.undo(), 12);
    }

    private static void promise41NotTheRest() {
        SealPrints x = new SealPrints();
        Check.feed(x, "pr");
        x.sheet(0, 64, 2);
        x.image();
        Check.feed(x, "int");
        x.write(0, 0, 5);
        x.sheet(1, 8, 1);
        x.of(0, 0);
        x.undo();
        due("41 the tape stays", x.count(2), 5);
        due("41 its bytes, too", x.text(), 1);
        due("41 numbers stay", x.write(0, 0, 0), 5);
        due("41 sheets stay", x.show(1), 1);
        due("41 findings stay", x.status(0), 1);
    }

    private static void promise42Tear() {
        SealPrints x = Check.withPrints(1);
        due("42 nothing", x.tear(), 0);
        x.image();
        x.image();
        due("42 something", x.tear(), 1);
        due("42 nothing more", x.tear(), 0);
        due("42 nothing to undo", x.undo(), Check.NONE);
        due("42 what there is stays", x.count(0), 1);
        x.image();
        due("42 kept anew", x.undo(), 1);
    }

    private static void promise43Count() {
        SealPrints x = Check.withPrints(3);
        x.look(0);
        x.look(2);
        x.scratch(0, 1, true);
        x.scratch(1, 1, true);
        x.scratch(1, 39, true);
        x.feed(0, 3);
        x.slack(77);
        due("43 prints", x.count(0), 3);
        due("43 seen", x.count(1), 2);
        due("43 bytes", x.count(2), 3);
        due("43 slack", x.count(3), 77);
        due("43 marks of all, hidden ones, too", x.count(4), 3);
        due("43 what 5", x.count(5), Check.BEYOND);
        due("43 what -1", x.count(-1), Check.BEYOND);
        due("43 what least", x.count(Integer.MIN_VALUE), Check.BEYOND);
        SealPrints y = new SealPrints();
        for (int p = 0; p < 12; p++) {
            y.print(5, -1L);
        }
        due("43 all marks", y.count(4), 480);
    }

    private static void promise44Status() {
        SealPrints x = new SealPrints();
        due("44 none", x.status(-1), 0);
        due("44 which 7", x.status(7), Check.BEYOND);
        due("44 counted from then on", x.status(0), 1);
        due("44 which -2", x.status(-2), Check.BEYOND);
        due("44 which least", x.status(Integer.MIN_VALUE), Check.BEYOND);
        due("44 which greatest", x.status(Integer.MAX_VALUE), Check.BEYOND);
        due("44 of all", x.status(-1), 4);
        due("44 asking counts nothing", x.status(-1), 4);
        x.image();
        x.of(0, 0);
        x.undo();
        due("44 undo takes none back", x.status(-1), 5);
    }

    private static void promise44EachFinding() {
        SealPrints x = Check.withPrints(12);
        due("44 BEYOND", x.look(12), Check.BEYOND);
        due("44 FULL", x.print(0, 0), Check.FULL);
        due("44 FULL", x.print(1, 0), Check.FULL);
        due("44 KIND", x.as(0, 1), Check.KIND);
        due("44 NONE", x.undo(), Check.NONE);
        due("44 NONE", x.tell(), Check.NONE);
        due("44 NONE", x.tell(), Check.NONE);
        due("44 STATE", x.castOf(0), Check.STATE);
        due("44 MISSING", x.read(0), Check.MISSING);
        due("44 MISSING", x.dates(0), Check.MISSING);
        due("44 SIZE", x.orders(4095), Check.SIZE);
        due("44 SIZE in longs doesn't matter", x.write(0, 0, 0), Check.MISSING);
        long[] want = {1, 2, 1, 3, 1, 3, 1};
        for (int which = 0; which < 7; which++) {
            due("44 which " + which, x.status(which), want[which]);
        }
        due("44 all", x.status(-1), 12);
    }
}
