/** The bounds that promises 31 to 33 tell, and what section 1 tells of the text and its FAULT. */
public final class EdgeTextTest {
    private static final Edge EDGE = new Edge("EdgeTextTest");
    private static final String[] KINDS = {"print", "burnt", "cast", "forged", "recut", "melted"};

    public static void main(String[] args) {
        promise31N();
        promise31Full();
        promise31HighestFirst();
        promise32();
        tapeOf120Bytes();
        wordsAreLettersAToZ();
        numbersAreDigits();
        numbersAre9999AtMost();
        tokensAreAsLongAsCanBe();
        blanksMayStandBetween();
        bytesThatBeginNoToken();
        itemsBetweenSigns();
        otherWords();
        upTo8Places();
        placesFrom0To39();
        placesAreUnlike();
        widthFrom1To9999();
        yearFrom0To2000();
        inThisOrderAndOnceAtMost();
        slackFrom0To999();
        lookAtAPrintThereByThen();
        the13thPrint();
        endsTooEarly();
        theFirstFaultIsTold();
        EDGE.end();
    }

    /** The three prints of few() and this on the tape. */
    private static Edge.Maker with(String text) {
        return () -> {
            SealPrints x = Samples.fewWiped();
            Check.feed(x, text);
            return x;
        };
    }

    /** The text is taken: how many items. */
    private static SealPrints items(String why, String text, int n) {
        SealPrints x = EDGE.acts("33 " + why + ": '" + text + "'", n, with(text), y -> y.text());
        EDGE.due("33 THE TAPE is empty then", x.count(2), 0);
        return x;
    }

    /** The text has a fault: nothing changes but that the tape is empty, and it is no finding. */
    private static void fault(String why, String text, int place) {
        String what = "33 FAULT, " + why + ": '" + text + "'";
        SealPrints x = EDGE.acts(what, -1 - place, with(text), y -> y.text());
        EDGE.due(what + ": THE TAPE is empty", x.count(2), 0);
        EDGE.due(what + ": nothing changes else",
                Samples.told(x).equals(Samples.told(Samples.fewWiped())) ? 1 : 0, 1);
    }

    private static SealPrints tape(int bytes) {
        SealPrints x = new SealPrints();
        for (int k = 0; k < bytes; k++) {
            x.feed(k == bytes - 1 ? '#' : ' ', 1);
        }
        return x;
    }

    private static void promise31N() {
        for (int k = 1; k <= 4; k++) {
            int n = k;
            EDGE.acts("31 n " + n, n, Samples::empty, x -> x.feed(0x70707070, n));
            EDGE.acts("31 how many it has", 37 + n, Samples::few, x -> x.feed(0, n));
        }
        int[] none = {0, 5, -1, 6, 8, 32, Edge.LEAST, Edge.GREATEST};
        EDGE.beyond("31 BEYOND: n", Samples::few, (x, n) -> x.feed(0x20202020, n), none);
        EDGE.beyond("31 BEYOND: n, of none", Samples::empty, (x, n) -> x.feed(0, n), none);
    }

    private static void promise31Full() {
        for (int k = 1; k <= 4; k++) {
            int n = k;
            EDGE.acts("31 the last that there is room for", 120, () -> tape(120 - n),
                    x -> x.feed(0x20202020, n));
            for (int had = 121 - n; had <= 120; had++) {
                int bytes = had;
                EDGE.refused("31 FULL: " + n + " behind " + had, Check.FULL, () -> tape(bytes),
                        x -> x.feed(0x20202020, n));
            }
        }
        SealPrints x = tape(118);
        x.feed(0x41414141, 3);
        EDGE.due("31 none of them came", x.feed(0x2020, 2), 120);
        EDGE.due("31 the byte ahead of them stays the first at fault", x.text(), -118);
    }

    private static void promise31HighestFirst() {
        SealPrints x = new SealPrints();
        x.feed('l' << 24 | 'o' << 16 | 'o' << 8 | 'k', 4);
        x.feed('#' << 24 | '#' << 16 | '#' << 8 | '0', 1);
        x.feed('#' << 24 | '#' << 16 | ';' << 8 | 'l', 2);
        x.feed('#' << 24 | 'o' << 16 | 'o' << 8 | 'k', 3);
        x.feed('1', 1);
        x.print(0, 0);
        x.print(0, 0);
        EDGE.due("31 the n lowest, the highest of these first", x.text(), 2);
        EDGE.due("31 both are looked at", x.count(1), 2);
        for (int b : new int[] {0x80, 0xFF, 0xE0, 0x00}) {
            SealPrints y = new SealPrints();
            y.feed(b << 24 | ' ' << 16 | ' ' << 8 | ' ', 4);
            EDGE.due("31 the highest byte of a number below 0: " + b, y.text(), -1);
        }
    }

    private static void promise32() {
        EDGE.asks("32 it had none", 0, Samples::empty, x -> x.wipe());
        EDGE.acts("32 it had one", 1, () -> tape(1), x -> x.wipe());
        SealPrints x = EDGE.acts("32 it had 120", 120, () -> tape(120), y -> y.wipe());
        EDGE.due("32 it is empty", x.count(2), 0);
        EDGE.due("32 there is room again", x.feed(0x20202020, 4), 4);
        EDGE.due("32 nothing else changes", Samples.told(Samples.fewWiped())
                .equals(Samples.told(wiped())) ? 1 : 0, 1);
    }

    private static SealPrints wiped() {
        SealPrints x = Samples.few();
        x.wipe();
        x.wipe();
        return x;
    }

    private static void tapeOf120Bytes() {
        String items = "look0;".repeat(19);
        items("20 items of 119 bytes", items + "look0", 20);
        items("120 bytes", items + "look 0", 20);
        items("120 bytes, the last is a digit of a number", items + "look00", 20);
        items("120 bytes, the last is a blank", items + "look0 ", 20);
        fault("120 bytes, the last is a sign", items + "look0;", 120);
        fault("120 bytes, the last begins no token", items + "look0#", 119);
        fault("120 bytes, the last is of a word", items + "lookat", 114);
        fault("120 blanks", " ".repeat(120), 120);
        items("one item at the end", " ".repeat(113) + "slack 9", 1);
        SealPrints x = new SealPrints();
        EDGE.due("33 22 items", Check.tell(x, "cast;".repeat(12) + "look0;".repeat(9) + "look11"),
                22);
        EDGE.due("33 twelve came", x.count(0), 12);
    }

    private static void wordsAreLettersAToZ() {
        fault("a goes on a word", "printa", 0);
        fault("z goes on a word", "printz", 0);
        fault("the byte ahead of a", "print`", 5);
        fault("the byte behind z", "print{", 5);
        fault("A is no letter", "printA", 5);
        fault("Z is no letter", "printZ", 5);
        fault("a word of 120 letters", "z".repeat(120), 0);
        fault("no word at all", "Print", 0);
    }

    private static void numbersAreDigits() {
        EDGE.due("33 0 is a digit", items("places", "print 10 20 30 0", 1).marks(3, 0),
                Check.places(0, 10, 20, 30));
        EDGE.due("33 9 is a digit", items("places", "print 9 19 29 39", 1).marks(3, 0),
                Check.places(9, 19, 29, 39));
        fault("the byte ahead of 0", "print 1/", 7);
        fault("the byte behind 9", "print 1:", 7);
        fault("no sign ahead of a number", "print -1", 6);
        fault("no sign ahead of a number", "print +1", 6);
        fault("no point", "print 1.0", 7);
    }

    private static void numbersAre9999AtMost() {
        EDGE.due("33 9999", items("9999", "print width 9999", 1).of(3, 1), 9999);
        String[] tooMuch = {"10000", "10001", "65537", "99999", "100000", "2147483648",
            "4294967297", "18446744073709551617", "1".repeat(90)};
        for (String number : tooMuch) {
            fault("more than 9999, its first byte", "print width " + number, 12);
            fault("more than 9999, its first byte", "print " + number + " #", 6);
            fault("more than 9999, its first byte", "slack  " + number, 7);
            fault("more than 9999, its first byte", "look " + number + ";#", 5);
        }
        EDGE.due("33 0s ahead", items("0s ahead", "print width 000000009999", 1).of(3, 1), 9999);
        EDGE.due("33 0s alone", items("0s alone", "print 00000", 1).marks(3, 0), 1);
        fault("0s alone", "print width 00000", 12);
    }

    private static void tokensAreAsLongAsCanBe() {
        EDGE.due("33 one number", items("one number", "print 12", 1).marks(3, 0),
                Check.places(12));
        EDGE.due("33 two numbers", items("two numbers", "print 1 2", 1).marks(3, 0), 6);
        items("a number behind a word", "print1", 1);
        items("a word behind a number", "print1width2year3seen;slack4;look0", 3);
        fault("two words in one", "printseen", 0);
        fault("two words in one", "print widthyear", 6);
        items("a word behind a word", "print seen", 1);
    }

    private static void blanksMayStandBetween() {
        items("none", "print;print", 2);
        items("one", " print ; print ", 2);
        items("many", "   print   ;   print   ", 2);
        fault("in a word", "pri nt", 0);
        EDGE.due("33 in a number", items("in a number", "print 3 9", 1).marks(3, 0),
                Check.places(3, 9));
    }

    /** In four places: where an item, a place, a number of a width or a sign may stand. */
    private static void bytesThatBeginNoToken() {
        for (int b = 0; b < 256; b++) {
            boolean letter = b >= 'a' && b <= 'z';
            boolean digit = b >= '0' && b <= '9';
            String sign = String.valueOf((char) b);
            if (b == ' ') {
                items("a blank", "print " + sign, 1);
            } else if (b == ';') {
                fault("ends behind the sign", "print " + sign, 7);
            } else if (digit) {
                items("a digit", "print " + sign, 1);
            } else {
                fault(letter ? "another word" : "byte " + b, "print " + sign, 6);
            }
            if (!letter && !digit && b != ' ') {
                fault("byte " + b + " at first", sign + "print", 0);
                fault("byte " + b + " for a width", "print width " + sign + "5", 12);
                fault("byte " + b + " for a slack", "slack " + sign, 6);
            }
        }
    }

    private static void itemsBetweenSigns() {
        items("one", "slack 1", 1);
        items("two", "slack 1;slack 2", 2);
        EDGE.due("33 one behind the other", items("three", "slack 1;slack 2;slack 3", 3).count(3),
                3);
        fault("none at all", "", 0);
        fault("none ahead of the sign", ";slack 1", 0);
        fault("none between signs", "slack 1;;slack 2", 8);
        fault("none behind the sign", "slack 1;", 8);
        fault("no sign between", "slack 1 slack 2", 8);
        fault("no sign between", "look 0 look 1", 7);
        fault("no sign between", "print print", 6);
        fault("a number behind a slack", "slack 1 2", 8);
        fault("a number behind a look", "look 0 1", 7);
        fault("a number for an item", "5", 0);
    }

    private static void otherWords() {
        for (int k = 0; k < 6; k++) {
            String name = KINDS[k];
            EDGE.due("33 the name of a KIND", items("a KIND", name, 1).of(3, 0), k);
            fault("a letter less", name.substring(0, name.length() - 1), 0);
            fault("a letter more", name + "s", 0);
            fault("another first letter", "z" + name.substring(1), 0);
            fault("another last letter", name.substring(0, name.length() - 1) + "z", 0);
            fault("no item can be behind it", name + " " + name, 1 + name.length());
        }
        for (String word : new String[] {"width", "year", "seen", "a", "z", "items"}) {
            fault("no item begins with it", word + " 1", 0);
        }
        for (String word : new String[] {"widt", "widths", "yea", "years", "see", "seens", "look",
            "slack"}) {
            fault("another word in an item", "print 1 " + word + " 5", 8);
        }
        fault("another word for a number", "print width year 5", 12);
        fault("another word for a number", "slack look 0", 6);
        fault("another word for a number", "look seen", 5);
    }

    private static void upTo8Places() {
        String places = "";
        for (int n = 0; n <= 8; n++) {
            SealPrints x = items(n + " places", "print" + places, 1);
            EDGE.due("33 " + n + " places", x.marks(3, 0), (1L << n) - 1);
            items(n + " places, and more", "print" + places + " width 5 year 6 seen;slack 7", 2);
            places = places + " " + n;
        }
        fault("a 9th PLACE", "print 0 1 2 3 4 5 6 7 8", 22);
        fault("a 9th PLACE that came already", "print 0 1 2 3 4 5 6 7 0", 22);
        fault("a 9th PLACE that is none", "print 0 1 2 3 4 5 6 7 40", 22);
        fault("a 9th PLACE and more", "print 0 1 2 3 4 5 6 7 8 width 5;#", 22);
        items("8 PLACES, twice", "cast 0 1 2 3 4 5 6 7;cast 32 33 34 35 36 37 38 39", 2);
        fault("a 9th PLACE, of the second", "cast 0 1 2 3 4 5 6 7;cast 0 1 2 3 4 5 6 7 8", 42);
    }

    private static void placesFrom0To39() {
        for (int place = 0; place < 40; place++) {
            EDGE.due("33 PLACE " + place, items("a PLACE", "cast " + place, 1).marks(3, 0),
                    1L << place);
        }
        for (int place : new int[] {40, 41, 63, 64, 65, 100, 9999}) {
            fault("no PLACE", "cast " + place, 5);
            fault("no PLACE behind others", "cast 39 0 " + place, 10);
        }
    }

    private static void placesAreUnlike() {
        fault("one and the same at once", "print 0 0", 8);
        fault("one and the same at once", "print 39 39", 9);
        fault("one and the same later", "print 1 2 3 1", 12);
        fault("one and the same, the 8th", "print 1 2 3 4 5 6 7 7", 20);
        fault("one and the same, with a 0", "print 1 01", 8);
        items("one and the same of two prints", "print 5;print 5", 2);
    }

    private static void widthFrom1To9999() {
        for (int width : new int[] {1, 2, 9998, 9999}) {
            EDGE.due("33 WIDTH", items("WIDTH", "cast width " + width, 1).of(3, 1), width);
        }
        fault("WIDTH 0", "cast width 0", 11);
        fault("WIDTH 10000", "cast width 10000", 11);
        fault("no number behind width", "cast width", 10);
        fault("no number behind width", "cast width;", 10);
        fault("no number behind width", "cast width seen", 11);
        fault("two numbers behind width", "cast width 5 6", 13);
        EDGE.due("33 no WIDTH", items("no WIDTH", "cast year 5", 1).of(3, 1), 1000);
    }

    private static void yearFrom0To2000() {
        for (int year : new int[] {0, 1, 1999, 2000}) {
            EDGE.due("33 YEAR", items("YEAR", "cast year " + year, 1).of(3, 2), year);
        }
        fault("YEAR 2001", "cast year 2001", 10);
        fault("YEAR 9999", "cast year 9999", 10);
        fault("YEAR 10000", "cast year 10000", 10);
        fault("no number behind year", "cast year", 9);
        fault("no number behind year", "cast year ;", 10);
        fault("two numbers behind year", "cast year 5 6", 12);
        EDGE.due("33 no YEAR", items("no YEAR", "cast width 5", 1).of(3, 2), 0);
    }

    private static void inThisOrderAndOnceAtMost() {
        items("all", "print 1 width 2 year 3 seen", 1);
        items("width and seen", "print width 2 seen", 1);
        items("year and seen", "print year 2 seen", 1);
        items("width and year", "print width 2 year 2", 1);
        fault("year ahead of width", "print year 3 width 2", 13);
        fault("seen ahead of width", "print seen width 2", 11);
        fault("seen ahead of year", "print seen year 2", 11);
        fault("seen ahead of a place", "print seen 2", 11);
        fault("width twice", "print width 2 width 2", 14);
        fault("year twice", "print year 2 year 2", 13);
        fault("seen twice", "print seen seen", 11);
        fault("seen behind a slack", "slack 5 seen", 8);
        fault("seen behind a look", "look 0 seen", 7);
        EDGE.due("33 seen", items("seen", "print seen", 1).of(3, 3), 1);
        EDGE.due("33 not seen", items("not seen", "print", 1).of(3, 3), 0);
    }

    private static void slackFrom0To999() {
        for (int v : new int[] {0, 1, 998, 999}) {
            EDGE.due("33 SLACK", items("SLACK", "slack " + v, 1).count(3), v);
        }
        fault("SLACK 1000", "slack 1000", 6);
        fault("SLACK 9999", "slack 9999", 6);
        fault("SLACK 10000", "slack 10000", 6);
    }

    private static void lookAtAPrintThereByThen() {
        EDGE.due("33 look at the first", items("look", "look 0", 1).of(0, 3), 1);
        EDGE.due("33 look at the last", items("look", "look 2", 1).of(2, 3), 1);
        EDGE.due("33 look at one SEEN already", items("look", "look 1;look 1", 2).count(1), 1);
        fault("there is none by then", "look 3", 5);
        fault("there is none by then", "look 3;print", 5);
        EDGE.due("33 it came just ahead", items("look", "print;look 3", 2).of(3, 3), 1);
        fault("one too far", "print;look 4", 11);
        fault("no PRINT 12", "look 12", 5);
        fault("no PRINT 32", "look 32", 5);
        SealPrints x = new SealPrints();
        EDGE.due("33 look at none", Check.tell(x, "look 0"), -6);
        x = Check.withPrints(12);
        EDGE.due("33 look at the 12th", Check.tell(x, "look 11"), 1);
        EDGE.due("33 look at a 13th", Check.tell(x, "look 12"), -6);
    }

    private static void the13thPrint() {
        String nine = "cast;cast;cast;cast;cast;cast;cast;cast;cast";
        items("up to twelve", nine, 9);
        for (String name : KINDS) {
            fault("a 13th: its own", nine + "; " + name, 46);
            fault("a 13th and more", nine + ";" + name + " 99;#", 45);
        }
        fault("ahead of the 13th", nine + " cast", 45);
        items("others behind the 12th", nine + ";slack 5;look 11", 11);
        Edge.Maker full = () -> {
            SealPrints x = Samples.full();
            x.wipe();
            Check.feed(x, "slack 3;melted");
            return x;
        };
        SealPrints x = EDGE.acts("33 a 13th, no finding", -9, full, y -> y.text());
        EDGE.due("33 nothing changes", x.count(3), 20);
    }

    private static void endsTooEarly() {
        String[] texts = {"", " ", "    ", "print;", "print ; ", "slack", "slack ", "look",
            "look  ", "print width", "print 1 width ", "print year", "print year  ",
            "slack 1;look"};
        for (String text : texts) {
            fault("it ends too early", text, text.length());
        }
        EDGE.asks("33 an empty tape", -1, Samples::empty, x -> x.text());
        EDGE.asks("33 an empty tape", -1, Samples::fewWiped, x -> x.text());
    }

    private static void theFirstFaultIsTold() {
        fault("of two", "print 40 41", 6);
        fault("of two", "print 5;prin;#", 8);
        fault("behind blanks", "   #", 3);
        fault("behind items that would change much",
                "slack 999;look 0;burnt 1 width 5 year 6 seen;look 3;cast;print 7 7", 65);
        SealPrints x = new SealPrints();
        Check.tell(x, "print 1 width 5 year 6 seen;#");
        EDGE.due("33 nothing of a fault is left for the next", Check.tell(x, "cast"), 1);
        EDGE.due("33 its marks", x.marks(0, 0), 0);
        EDGE.due("33 its width", x.of(0, 1), 1000);
        EDGE.due("33 its year", x.of(0, 2), 0);
        EDGE.due("33 not seen", x.of(0, 3), 0);
    }
}
