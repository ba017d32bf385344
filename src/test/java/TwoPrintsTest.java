/** Promises 11 to 15: two prints. */
public final class TwoPrintsTest {
    private static final Check CHECK = new Check("TwoPrintsTest");

    public static void main(String[] args) {
        promise11Marks();
        promise11Widths();
        promise12Order();
        promise13Alike();
        promise14SlackFor();
        promise15Came();
        wrongOnes();
        CHECK.end();
    }

    private static void due(String what, long got, long want) {
        CHECK.due(what, got, want);
    }

    private static void promise11Marks() {
        SealPrints x = Samples.two(0, 5, 0, 7);
        due("11 marks come", x.ahead(0, 1), 1);
        due("11 marks never go", x.ahead(1, 0), 0);
        x = Samples.two(0, Check.places(35), 0, 0);
        due("11 what is hidden isn't asked", x.ahead(0, 1), 1);
        x.look(0);
        due("11 the later one hides it", x.ahead(0, 1), 1);
        x.look(1);
        due("11 both are seen", x.ahead(0, 1), 0);
        x = Samples.two(0, Check.places(1), 1, 0);
        due("11 a burnt one hides odd places", x.ahead(0, 1), 1);
        x = Samples.two(0, Check.places(2), 1, 0);
        due("11 and even ones not", x.ahead(0, 1), 0);
        x = Samples.two(0, Check.places(22), 5, 0);
        due("11 a melted one hides from 20 on", x.ahead(0, 1), 1);
        x = Samples.two(0, 7, 4, 0);
        due("11 a recut one has lost marks", x.ahead(0, 1), 1);
        due("11 ahead of others it is as any", x.ahead(1, 0), 1);
        x = Samples.two(4, 7, 0, 0);
        due("11 a recut one ahead", x.ahead(0, 1), 0);
        x = Samples.two(4, 7, 4, 0);
        due("11 two recut ones", x.ahead(0, 1), 1);
    }

    private static void promise11Widths() {
        SealPrints x = Samples.two(0, 0, 0, 0);
        x.slack(20);
        x.set(1, 1, 1020);
        due("11 unlike by 20", x.ahead(0, 1), 1);
        due("11 unlike by 20, the other way", x.ahead(1, 0), 1);
        x.set(1, 1, 1021);
        due("11 unlike by 21", x.ahead(0, 1), 0);
        due("11 unlike by 21, the other way", x.ahead(1, 0), 0);
        x.slack(21);
        due("11 with more slack", x.ahead(0, 1), 1);
        x.slack(0);
        x.set(1, 1, 1000);
        due("11 alike, with none", x.ahead(0, 1), 1);
        x.turn(1, 1);
        due("11 true widths are asked", x.ahead(0, 1), 0);
        x.set(1, 1, 900);
        due("11 and alike", x.ahead(0, 1), 1);
        x.turn(1, 4);
        due("11 of a recut one, too", x.ahead(0, 1), 0);
    }

    private static void promise12Order() {
        due("12 in both", Samples.two(0, 3, 0, 3).order(0, 1), 3);
        due("12 the first ahead", Samples.two(0, 1, 0, 3).order(0, 1), 1);
        due("12 the other one ahead", Samples.two(0, 3, 0, 1).order(0, 1), 2);
        due("12 in none", Samples.two(0, 1, 0, 2).order(0, 1), 0);
        due("12 a recut one behind", Samples.two(4, 2, 0, 1).order(0, 1), 2);
        due("12 a recut one behind, told first", Samples.two(4, 2, 0, 1).order(1, 0), 1);
        SealPrints x = Samples.two(0, 3, 0, 3);
        x.slack(0);
        x.set(0, 1, 999);
        due("12 widths unlike", x.order(0, 1), 0);
    }

    private static void promise13Alike() {
        due("13 neither seen", Samples.two(0, 5, 0, 5).alike(0, 1), 30);
        due("13 one more", Samples.two(0, 5, 0, 7).alike(0, 1), 29);
        due("13 all unlike", Samples.two(0, -1L, 0, 0).alike(0, 1), 0);
        due("13 one burnt", Samples.two(0, 5, 1, 7).alike(0, 1), 15);
        due("13 one melted", Samples.two(0, 1, 5, 0).alike(0, 1), 9);
        SealPrints x = Samples.two(0, Check.places(0, 39), 0, Check.places(0));
        x.look(0);
        due("13 one seen", x.alike(0, 1), 30);
        x.look(1);
        due("13 both seen", x.alike(0, 1), 39);
        due("13 the other way", x.alike(1, 0), 39);
    }

    private static void promise14SlackFor() {
        SealPrints x = Samples.two(0, 1, 0, 3);
        x.slack(5);
        x.set(0, 1, 1);
        x.set(1, 1, 1000);
        due("14 999", x.slackFor(0, 1), 999);
        due("14 whichever is first", x.slackFor(1, 0), 999);
        x.set(1, 1, 1001);
        due("14 1000", x.slackFor(0, 1), Check.NONE);
        x.set(1, 1, 1);
        due("14 none is wanted", x.slackFor(0, 1), 0);
        x.scratch(1, 0, false);
        due("14 by marks in no order", x.slackFor(0, 1), Check.NONE);
        x.turn(1, 4);
        due("14 a recut one", x.slackFor(0, 1), 0);
        due("14 slack stays", x.count(3), 5);
        x.turn(1, 5);
        x.set(1, 1, 90);
        due("14 by true widths", x.slackFor(0, 1), 124);
    }

    private static void promise15Came() {
        due("15 one came", Samples.two(0, 5, 0, 7).came(0, 1), 1);
        due("15 none came", Samples.two(0, 5, 0, 5).came(0, 1), 0);
        due("15 the other way it can't be", Samples.two(0, 5, 0, 7).came(1, 0), Check.STATE);
        due("15 what the first hides isn't counted", Samples.two(1, 0, 0, -1L).came(0, 1), 15);
        due("15 what the other hides isn't, either", Samples.two(0, 0, 5, -1L).came(0, 1), 10);
        SealPrints x = Samples.two(0, 0, 0, -1L);
        x.look(1);
        due("15 the first isn't seen", x.came(0, 1), 30);
        x.look(0);
        due("15 both are seen", x.came(0, 1), 40);
        due("15 at a recut one", Samples.two(0, 6, 4, 3).came(0, 1), 1);
        x.slack(0);
        x.set(0, 1, 999);
        due("15 widths unlike", x.came(0, 1), Check.STATE);
    }

    private static void wrongOnes() {
        int[][] wrong = {{0, 0}, {1, 1}, {0, 2}, {2, 0}, {-1, 0}, {0, -1}, {5, 5},
            {Integer.MIN_VALUE, 1}, {1, Integer.MAX_VALUE}};
        for (int[] w : wrong) {
            SealPrints x = Samples.two(0, 1, 0, 2);
            due("11 wrong", x.ahead(w[0], w[1]), Check.BEYOND);
            due("12 wrong", x.order(w[0], w[1]), Check.BEYOND);
            due("13 wrong", x.alike(w[0], w[1]), Check.BEYOND);
            due("14 wrong", x.slackFor(w[0], w[1]), Check.BEYOND);
            due("15 wrong", x.came(w[0], w[1]), Check.BEYOND);
            due("11 to 15 counted", x.status(0), 5);
        }
    }
}
