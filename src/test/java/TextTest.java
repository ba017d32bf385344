/** Promises 31 to 33: the tape and the text. */
public final class TextTest {
    private static final Check CHECK = new Check("TextTest");

    public static void main(String[] args) {
        promise31Feed();
        promise32Wipe();
        promise33Items();
        promise33Tokens();
        promise33Faults();
        promise33FaultsOfNumbers();
        promise33TooEarly();
        promise33FaultChangesNothing();
        promise33Thirteenth();
        CHECK.end();
    }

    private static void due(String what, long got, long want) {
        CHECK.due(what, got, want);
    }

    private static void promise31Feed() {
        SealPrints x = new SealPrints();
        due("31 n 0", x.feed(1, 0), Check.BEYOND);
        due("31 n 5", x.feed(1, 5), Check.BEYOND);
        due("31 n -1", x.feed(1, -1), Check.BEYOND);
        due("31 n least", x.feed(1, Integer.MIN_VALUE), Check.BEYOND);
        due("31 nothing came", x.count(2), 0);
        for (int k = 1; k <= 29; k++) {
            due("31 four by four", x.feed(' ' * 0x01010101, 4), 4 * k);
        }
        due("31 119", x.feed(0, 3), 119);
        due("31 two too many", x.feed(0, 2), Check.FULL);
        due("31 119 still", x.count(2), 119);
        due("31 120", x.feed(0, 1), 120);
        due("31 a 121st", x.feed(0, 1), Check.FULL);
        due("31 n is asked ahead of FULL", x.feed(0, 5), Check.BEYOND);
        SealPrints y = new SealPrints();
        y.feed('p' << 24 | 'r' << 16 | 'i' << 8 | 'n', 4);
        y.feed(0x7F << 24 | 0x7F << 16 | 't' << 8 | ' ', 2);
        y.feed(0x7F << 24 | '1' << 16 | '2' << 8 | ';', 3);
        y.feed(-1 << 8 | 'x', 1);
        due("31 highest of the lowest first", y.text(), -10);
        due("31 bytes above 127 come, too", new SealPrints().feed(-1, 4), 4);
    }

    private static void promise32Wipe() {
        SealPrints x = new SealPrints();
        due("32 it had none", x.wipe(), 0);
        Check.feed(x, "print");
        due("32 it had five", x.wipe(), 5);
        due("32 it has none", x.count(2), 0);
        Check.feed(x, "cast");
        due("32 nothing is left behind", x.text(), 1);
        due("32 a cast", x.of(0, 0), 2);
    }

    private static void promise33Items() {
        SealPrints x = new SealPrints();
        due("33 each kind", Check.tell(x, "print;burnt;cast;forged;recut;melted"), 6);
        for (int kind = 0; kind < 6; kind++) {
            due("33 kind", x.of(kind, 0), kind);
            due("33 width at first", x.of(kind, 1), 1000);
            due("33 year at first", x.of(kind, 2), 0);
            due("33 not seen", x.of(kind, 3), 0);
            due("33 no marks", x.marks(kind, 0), 0);
        }
        due("33 the tape is empty then", x.count(2), 0);
        due("33 all of a print",
                Check.tell(x, "burnt 39 0 7 width 9999 year 2000 seen;slack 999;look 0"), 3);
        due("33 marks", x.marks(6, 0), Check.places(0, 7, 39));
        due("33 width", x.of(6, 1), 9999);
        due("33 year", x.of(6, 2), 2000);
        due("33 seen", x.of(6, 3), 1);
        due("33 slack", x.count(3), 999);
        due("33 looked at", x.of(0, 3), 1);
        due("33 and no other", x.count(1), 2);
        due("33 width alone", Check.tell(x, "cast width 1"), 1);
        due("33 width 1", x.of(7, 1), 1);
        due("33 year alone", Check.tell(x, "cast 3 year 0"), 1);
        due("33 seen alone", Check.tell(x, "cast 0 1 2 3 4 5 6 7 seen"), 1);
        due("33 eight places", x.marks(9, 0), 255);
        due("33 seen", x.of(9, 3), 1);
        due("33 what there is by then", Check.tell(x, "print;look 10;look 10;slack 0"), 4);
        due("33 the new one is looked at", x.of(10, 3), 1);
        due("33 slack 0", x.count(3), 0);
    }

    private static void promise33Tokens() {
        SealPrints x = new SealPrints();
        due("33 no blanks", Check.tell(x, "print1 2width30year40seen;slack5;look0"), 3);
        due("33 marks", x.marks(0, 0), 6);
        due("33 width", x.of(0, 1), 30);
        due("33 year", x.of(0, 2), 40);
        due("33 seen", x.of(0, 3), 1);
        due("33 many blanks", Check.tell(x, "   print  7   ;  slack   6  "), 2);
        due("33 a number is as long as can be", x.marks(1, 0), 128);
        due("33 a number with 0s ahead", Check.tell(x, "print 007 width 000000000123"), 1);
        due("33 is what it is without", x.of(2, 1), 123);
        due("33 a word is as long as can be", Check.tell(x, "printseen"), -1);
        due("33 a word goes on", Check.tell(x, "slacks 1"), -1);
        due("33 a word ends early", Check.tell(x, "prin 1"), -1);
        due("33 a digit in a word", Check.tell(x, "pr1nt"), -1);
        String[] known = {"print", "burnt", "cast", "forged", "recut", "melted"};
        for (String word : known) {
            for (int k = 0; k < word.length(); k++) {
                String other = word.substring(0, k) + "z" + word.substring(k + 1);
                due("33 another word: " + other, Check.tell(x, other), -1);
            }
            due("33 another word with a z", Check.tell(x, word + "z"), -1);
            due("33 another word with an a", Check.tell(x, "a" + word), -1);
            due("33 two words", Check.tell(x, word + " aeens"), -2 - word.length());
        }
        due("33 large letters", Check.tell(x, "Print"), -1);
        due("33 inside a word", Check.tell(x, "print 1 Seen"), -9);
    }

    private static void promise33Faults() {
        String[] texts = {"", "   ", ";", "print;;print", "print ; ", "seen", "print width",
            "print seen width 5", "print year 5 width 5", "print seen seen", "print 1 look 0",
            "print seen 4", "print width 4 5", "look", "look print", "slack;print", "print print",
            "print -1", "print 1, 2", "print\t1", "print\n", "slack 5 6", "look 0", "7",
            "print;look 1", "width 5", "print year", "print 1 2 3 4 5 6 7 8 9",
            "print 0 1 2 3 4 5 6 7 seen;cast 0 1 2 3 4 5 6 7 8", "print #", "print ; @ 99999",
            "print 1 1 #", "print {", "print `", "print /", "print :", "print <"};
        int[] places = {0, 3, 0, 6, 8, 0, 11, 11, 13, 11, 8, 11, 14, 4, 5, 5, 6, 6, 7, 5, 5, 8,
            5, 0, 11, 0, 10, 22, 48, 6, 8, 8, 6, 6, 6, 6, 6};
        for (int k = 0; k < texts.length; k++) {
            SealPrints x = new SealPrints();
            due("33 fault of '" + texts[k] + "'", Check.tell(x, texts[k]), -1 - places[k]);
            due("33 the tape is empty", x.count(2), 0);
            due("33 no finding", x.status(-1), 0);
            due("33 no print came", x.count(0), 0);
        }
        for (int b = 0; b < 256; b++) {
            boolean may = b >= '0' && b <= '9' || b == ';' || b == ' ';
            SealPrints x = new SealPrints();
            x.feed('c' << 24 | 'a' << 16 | 's' << 8 | 't', 4);
            x.feed(' ' << 8 | b, 2);
            due("33 byte " + b, x.text(), may ? (b == ';' ? -7 : 1) : -6);
        }
    }

    private static void promise33FaultsOfNumbers() {
        String[] texts = {"print 40", "print 39 40", "print 5 6 5", "print width 0",
            "print width 10000", "print year 2001", "slack 1000", "print;look 1", "print 9999",
            "print 10000", "print width 99999999999999999999", "print 4294967296",
            "slack 4294967297", "print;look 18446744073709551616", "print year 65536"};
        int[] places = {6, 9, 10, 12, 12, 11, 6, 11, 6, 6, 12, 6, 6, 11, 11};
        for (int k = 0; k < texts.length; k++) {
            due("33 fault of '" + texts[k] + "'", Check.tell(new SealPrints(), texts[k]),
                    -1 - places[k]);
        }
    }

    private static void promise33TooEarly() {
        String[] texts = {"slack ", "look  ", "print 1 width  ", "print year ", "print;", "cast ; "};
        for (String text : texts) {
            due("33 too early: '" + text + "'", Check.tell(new SealPrints(), text),
                    -1 - text.length());
        }
    }

    private static void promise33FaultChangesNothing() {
        SealPrints x = new SealPrints();
        x.print(2, 9);
        due("33 a fault at the end",
                Check.tell(x, "print 1 seen;slack 7;look 0;burnt 3 width 5 year 6;look 3"), -57);
        due("33 as many prints", x.count(0), 1);
        due("33 slack stays", x.count(3), 20);
        due("33 not seen", x.of(0, 3), 0);
        due("33 marks stay", x.marks(0, 0), 9);
        due("33 no finding", x.status(-1), 0);
        x.print(0, 0);
        due("33 the next one begins anew", x.of(1, 3) + x.marks(1, 0), 0);
        x.image();
        Check.tell(x, "slack 3;oh");
        x.undo();
        due("33 an image stays as it was", x.count(0), 2);
    }

    private static void promise33Thirteenth() {
        SealPrints x = Check.withPrints(10);
        due("33 a 13th", Check.tell(x, "cast;cast;print"), -11);
        due("33 none came", x.count(0), 10);
        due("33 up to 12", Check.tell(x, "cast;cast"), 2);
        due("33 twelve", x.count(0), 12);
        due("33 a 13th at once", Check.tell(x, "  melted 99"), -3);
        due("33 others still come", Check.tell(x, "slack 4;look 11"), 2);
        StringBuilder longest = new StringBuilder();
        for (int k = 0; k < 15; k++) {
            longest.append("look 0; ");
        }
        due("33 120 bytes, ended too early", Check.tell(x, longest.toString()), -121);
        longest.setCharAt(118, ' ');
        due("33 120 bytes", Check.tell(x, longest.toString()), 15);
    }
}
