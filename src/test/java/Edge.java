import java.util.Arrays;

/**
 * Single calls at the bounds of the document. Each one is made on an object that was made for it
 * alone, and what there is afterwards is held against a twin that was made likewise and left alone.
 */
final class Edge {
    static final int LEAST = Integer.MIN_VALUE;
    static final int GREATEST = Integer.MAX_VALUE;

    interface Maker {
        SealPrints make();
    }

    interface Call {
        long on(SealPrints x);
    }

    /** A call that goes by one number: a print, a set, a sheet. */
    interface CallOf {
        long on(SealPrints x, int number);
    }

    private final Check check;

    Edge(String name) {
        check = new Check(name);
    }

    void end() {
        check.end();
    }

    void due(String what, long got, long want) {
        check.due(what, got, want);
    }

    /** The call answers a finding, which is counted once, and changes nothing else. */
    void refused(String what, long finding, Maker maker, Call call) {
        SealPrints x = maker.make();
        long[] tally = tally(x);
        check.due(what, call.on(x), finding);
        tally[0]++;
        tally[(int) (1 + Check.BEYOND - finding)]++;
        check.holds(what + ": it is counted once", Arrays.equals(tally, tally(x)));
        unlikeInNothing(what, x, maker.make());
    }

    /** The call answers this, which is no finding, and changes nothing at all. */
    void asks(String what, long answer, Maker maker, Call call) {
        unlikeInNothing(what, acts(what, answer, maker, call), maker.make());
    }

    /** The call answers this, which is no finding; what it changed is asked by whoever wants to. */
    SealPrints acts(String what, long answer, Maker maker, Call call) {
        SealPrints x = maker.make();
        long[] tally = tally(x);
        check.due(what, call.on(x), answer);
        check.holds(what + ": no finding is counted", Arrays.equals(tally, tally(x)));
        return x;
    }

    private void unlikeInNothing(String what, SealPrints x, SealPrints twin) {
        String got = Samples.told(x);
        String want = Samples.told(twin);
        check.holds(what + ": nothing changes\n  " + got + "\n  " + want, got.equals(want));
    }

    private static long[] tally(SealPrints x) {
        long[] tally = new long[8];
        for (int which = -1; which <= 6; which++) {
            tally[1 + which] = x.status(which);
        }
        return tally;
    }

    /** On both sides of the prints that there are, with none, three and twelve of them. */
    void noSuchPrint(String what, CallOf call) {
        beyond(what + " of none", Samples::empty, call, 0, 1, -1, 12, LEAST, GREATEST);
        beyond(what + " of three", Samples::few, call, 3, -1, 4, 12, 32, 33, LEAST, GREATEST);
        beyond(what + " of twelve", Samples::full, call, 12, -1, 13, 32, 43, -12, LEAST, GREATEST);
    }

    /** Sets with others than the prints that there are, with none, three and twelve of them. */
    void noSuchSet(String what, CallOf call) {
        beyond(what + " of none", Samples::empty, call, 1, 2, -1, 4096, LEAST, GREATEST);
        beyond(what + " of three", Samples::few, call, 8, 9, 15, -1, -8, 1 << 30, LEAST, GREATEST);
        beyond(what + " of twelve", Samples::full, call, 4096, 4097, 8191, -1, -4096, LEAST,
                GREATEST);
    }

    void noSuchSheet(String what, CallOf call) {
        beyond(what, Samples::few, call, -1, 4, 5, -4, LEAST, GREATEST);
    }

    void beyond(String what, Maker maker, CallOf call, int... numbers) {
        for (int number : numbers) {
            refused(what + ": " + number, Check.BEYOND, maker, x -> call.on(x, number));
        }
    }
}
