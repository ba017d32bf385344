/** Counts answers that are as due and prints those that are not. */
final class Check {
    static final long BEYOND = -1000000001L;
    static final long FULL = -1000000002L;
    static final long KIND = -1000000003L;
    static final long NONE = -1000000004L;
    static final long STATE = -1000000005L;
    static final long MISSING = -1000000006L;
    static final long SIZE = -1000000007L;

    private final String name;
    private int right;
    private int wrong;

    Check(String name) {
        this.name = name;
    }

    void due(String what, long got, long want) {
        if (got == want) {
            right++;
            return;
        }
        wrong++;
        System.out.println(name + ": " + what + " answered " + got + ", due is " + want);
    }

    void holds(String what, boolean is) {
        due(what, is ? 1 : 0, 1);
    }

    void end() {
        System.out.println(name + ": " + right + " answers as due, " + wrong + " not");
        if (wrong != 0 || right == 0) {
            System.exit(1);
        }
    }

    /** A new object with as many plain prints without marks. */
    static SealPrints withPrints(int n) {
        SealPrints x = new SealPrints();
        for (int p = 0; p < n; p++) {
            x.print(0, 0L);
        }
        return x;
    }

    /** A set of places, told one by one. */
    static long places(int... those) {
        long set = 0L;
        for (int place : those) {
            set |= 1L << place;
        }
        return set;
    }

    static void feed(SealPrints x, String text) {
        for (int i = 0; i < text.length(); i++) {
            x.feed(text.charAt(i), 1);
        }
    }

    /** What text() answers to a whole text on an empty tape. */
    static int tell(SealPrints x, String text) {
        x.wipe();
        feed(x, text);
        return x.text();
    }
}
