/** Promise 1: a new object has 1 to 10 nodes of weight 1, a seed, and time 0. */
public final class NewObjectTest {
    private static final Check CHECK = new Check();

    private static void hasNodes(int wanted, int nodes) {
        RoundVotes x = new RoundVotes(wanted, 5);
        String of = "new RoundVotes(" + wanted + ", 5).";
        CHECK.due(of + "count(6)", x.count(6), nodes);
        CHECK.due(of + "count(7)", x.count(7), nodes);
        CHECK.due(of + "count(0)", x.count(0), 0);
        CHECK.due(of + "node(last, 0)", x.node(nodes - 1, 0), 1);
        CHECK.due(of + "node(behind the last, 0)", x.node(nodes, 0), RoundVotes.BAD);
        for (int i = 0; i < nodes; i++) {
            CHECK.due(of + "weightOf(" + i + ", 1)", x.weightOf(i, 1), 1);
            CHECK.due(of + "weightOf(" + i + ", 40)", x.weightOf(i, 40), 1);
        }
    }

    private static void usesSeed(int seed) {
        RoundVotes x = new RoundVotes(3, seed);
        x.turn(1);
        CHECK.due("vote(1, 0, 1, 0) of seed " + seed, x.vote(1, 0, 1, 0), Check.own(seed, 1, 1, 0));
    }

    private static void ownValueIs(int seed, int value) {
        RoundVotes x = new RoundVotes(4, seed);
        x.turn(4);
        CHECK.due("decided(0, 1, 0) of seed " + seed, x.decided(0, 1, 0), value);
    }

    /** The lowest 20 bits count: all of them 0, all of them 1, the highest of them, and the first above them. */
    private static void edgesOfTheOwnValue() {
        int mixedToNothing = 7_919 ^ 104_729;
        ownValueIs(mixedToNothing, 2);
        ownValueIs(~mixedToNothing, 2_097_152);
        ownValueIs(mixedToNothing ^ 1 << 19, 1_048_578);
        ownValueIs(mixedToNothing ^ 1 << 20, 2);
        ownValueIs(mixedToNothing ^ 1 << 31, 2);
        ownValueIs(mixedToNothing ^ 0xFFF00000, 2);
    }

    /** All weights 1, all asked calls as of nothing that has been. */
    private static void nothingHasBeen(int n) {
        RoundVotes x = new RoundVotes(n, 5);
        int[] counts = {0, 0, 0, 0, 0, 0, n, n, 0};
        for (int what = 0; what < counts.length; what++) {
            CHECK.due("count(" + what + ") of " + n, x.count(what), counts[what]);
        }
        for (int height = 1; height <= 40; height++) {
            CHECK.due("weightOf(-1, " + height + ")", x.weightOf(-1, height), n);
            CHECK.due("unlike(" + height + ")", x.unlike(height), 0);
            CHECK.due("decided(0, " + height + ", 0)", x.decided(0, height, 0), RoundVotes.NONE);
        }
        CHECK.due("evidence(-1, 0)", x.evidence(-1, 0), 0);
        CHECK.due("against(0)", x.against(0), 0);
    }

    private static void someCalls(RoundVotes x, int k) {
        x.weight(k % 4, 1 + k % 3);
        x.behave(k % 4, k % 7 == 0 ? k % 6 : 0);
        x.disturb(3 * k, k % 3, 1 + k % 20);
        x.sides(k % 16, 1 + k % 2);
        x.turn(1 + k % 3);
        x.cut(k % 4, 1 + k % 5);
        x.catchUp((k + 1) % 4);
    }

    /** Nothing is drawn, and objects have nothing in common: the same calls give the same answers, one behind or amid the other. */
    private static void sameCallsSameAnswers() {
        RoundVotes first = new RoundVotes(4, 5);
        for (int k = 0; k < 60; k++) {
            someCalls(first, k);
        }
        Snapshot after = new Snapshot(first);
        RoundVotes second = new RoundVotes(4, 5);
        RoundVotes another = new RoundVotes(7, 6);
        for (int k = 0; k < 60; k++) {
            someCalls(second, k);
            someCalls(another, k + 1);
        }
        CHECK.due("the same calls on another object, with one amid them", after.isOf(second) ? 1 : 0, 1);
        CHECK.due("it is another one", after.isOf(another) ? 1 : 0, 0);
        CHECK.due("the first one is as it was", after.isOf(first) ? 1 : 0, 1);
    }

    public static void main(String[] args) {
        edgesOfTheOwnValue();
        nothingHasBeen(1);
        nothingHasBeen(10);
        for (int n = 1; n <= 10; n++) {
            hasNodes(n, n);
        }
        hasNodes(0, 1);
        hasNodes(-1, 1);
        hasNodes(Integer.MIN_VALUE, 1);
        hasNodes(11, 10);
        hasNodes(Integer.MAX_VALUE, 10);
        usesSeed(0);
        usesSeed(7);
        usesSeed(-5);
        usesSeed(Integer.MIN_VALUE);
        usesSeed(Integer.MAX_VALUE);
        sameCallsSameAnswers();
        CHECK.due("BAD", RoundVotes.BAD, -1);
        CHECK.due("NONE", RoundVotes.NONE, -2);
        CHECK.due("FULL", RoundVotes.FULL, -3);
        CHECK.finish();
    }
}
