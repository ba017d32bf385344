/** Archives to ask at the bounds, made the same way each time, and all that can be told of one. */
final class Samples {
    /** What sheets are overwritten with: what comes back tells how many bits they have. */
    private static final long OVER = 0x5A6B7C8D1A2B3C4DL;

    static SealPrints empty() {
        return new SealPrints();
    }

    /** Three prints, an image of another archive, three sheets, a text on the tape. */
    static SealPrints few() {
        SealPrints x = new SealPrints();
        keepAnother(x);
        x.print(1, Check.places(0, 2, 5));
        x.print(2, Check.places(0, 2, 30));
        setAll(x, 1, 1000, 900, 970);
        setAll(x, 2, 1000, 1010, 1020);
        x.look(1);
        x.slack(33);
        Check.feed(x, "slack 7;print 5 width 7 year 8;look 0");
        laySheets(x);
        return x;
    }

    /** Twelve prints of all kinds; there is room for none more. */
    static SealPrints full() {
        SealPrints x = new SealPrints();
        keepAnother(x);
        for (int p = 1; p < 12; p++) {
            x.print(p % 6, 5L << p);
            x.set(p, 2, 2000 - 100 * p);
        }
        x.look(11);
        Check.feed(x, "slack 7;look 3");
        laySheets(x);
        return x;
    }

    /** As few, but the tape is empty. */
    static SealPrints fewWiped() {
        SealPrints x = few();
        x.wipe();
        return x;
    }

    private static void keepAnother(SealPrints x) {
        x.print(5, Check.places(1, 7));
        x.set(0, 1, 321);
        x.set(0, 2, 123);
        x.slack(5);
        x.image();
        x.turn(0, 0);
        x.scratch(0, 1, false);
        x.scratch(0, 7, false);
        x.scratch(0, 0, true);
        x.set(0, 1, 1000);
        x.slack(20);
    }

    private static void laySheets(SealPrints x) {
        lay(x, 0, 8, 1, -2, 3);
        lay(x, 1, 16, 4, 300);
        lay(x, 2, 64, 1L << 40, 5, 6, 7);
    }

    /** What 1 (widths) or 2 (years) of prints 0, 1, .. */
    static void setAll(SealPrints x, int what, int... each) {
        for (int p = 0; p < each.length; p++) {
            x.set(p, what, each[p]);
        }
    }

    /** Lays a sheet of these numbers. */
    static void lay(SealPrints x, int s, int bits, long... numbers) {
        x.sheet(s, bits, numbers.length);
        for (int i = 0; i < numbers.length; i++) {
            x.write(s, i, numbers[i]);
        }
    }

    /** Plain prints with these marks, in years 10, 20, .. */
    static SealPrints marked(long... marks) {
        SealPrints x = new SealPrints();
        for (int p = 0; p < marks.length; p++) {
            x.print(0, marks[p]);
            x.set(p, 2, 10 * (p + 1));
        }
        return x;
    }

    /** Plain prints without marks of these widths: which fit goes by widths alone. */
    static SealPrints wide(int... widths) {
        SealPrints x = Check.withPrints(widths.length);
        setAll(x, 1, widths);
        return x;
    }

    /** Two prints of these kinds with these marks, and so much slack that no width matters. */
    static SealPrints two(int kindA, long marksA, int kindB, long marksB) {
        SealPrints x = new SealPrints();
        x.print(kindA, marksA);
        x.print(kindB, marksB);
        x.slack(999);
        return x;
    }

    /**
     * All that can be told of an object but status(): the archive, the sheets, what the tape comes
     * to, what is kept. The object is used up by that; it takes some 370 calls at most.
     */
    static String told(SealPrints x) {
        StringBuilder all = new StringBuilder();
        tellArchive(x, all);
        for (int s = 0; s < 4; s++) {
            for (int i = 0; i <= 40; i++) {
                all.append(x.write(s, i, OVER)).append(' ');
            }
            all.append(x.write(s, 0, 0)).append(" / ");
        }
        all.append(" text ").append(x.text()).append(' ');
        tellArchive(x, all);
        all.append(" undo ").append(x.undo()).append(' ');
        tellArchive(x, all);
        return all.append(" tear ").append(x.tear()).toString();
    }

    private static void tellArchive(SealPrints x, StringBuilder all) {
        int prints = x.count(0);
        all.append(prints).append(" prints, tape ").append(x.count(2));
        all.append(", slack ").append(x.count(3));
        for (int p = 0; p < prints; p++) {
            all.append("; ").append(Long.toHexString(x.marks(p, 0)));
            for (int what = 0; what < 4; what++) {
                all.append(' ').append(x.of(p, what));
            }
        }
        all.append(". ");
    }
}
