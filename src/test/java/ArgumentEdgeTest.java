import java.util.function.IntSupplier;

/**
 * Each number's range in promises 2 to 16: the last that is inside, the first that is outside, and the least and the
 * greatest int. A refused call changes nothing.
 */
public final class ArgumentEdgeTest {
    private static final Check CHECK = new Check();
    private static final int LEAST = Integer.MIN_VALUE;
    private static final int GREATEST = Integer.MAX_VALUE;
    private static final int BAD = RoundVotes.BAD;
    private static final int NONE = RoundVotes.NONE;

    private static void refused(RoundVotes x, String call, IntSupplier answer, int due) {
        Snapshot before = new Snapshot(x);
        CHECK.due(call, answer.getAsInt(), due);
        CHECK.due(call + " changes nothing", before.isOf(x) ? 1 : 0, 1);
    }

    private static int[] outside(int first, int last) {
        return new int[] {LEAST, first - 1, last + 1, GREATEST};
    }

    private static void nodeNumbers(RoundVotes x) {
        int last = x.count(6) - 1;
        for (int i : outside(0, last)) {
            refused(x, "weight(" + i + ", 1)", () -> x.weight(i, 1), BAD);
            refused(x, "behave(" + i + ", 0)", () -> x.behave(i, 0), BAD);
            refused(x, "cut(" + i + ", 1)", () -> x.cut(i, 1), BAD);
            refused(x, "catchUp(" + i + ")", () -> x.catchUp(i), BAD);
            CHECK.due("node(" + i + ", 0)", x.node(i, 0), BAD);
            CHECK.due("vote(" + i + ", 0, 0, 0)", x.vote(i, 0, 0, 0), BAD);
            CHECK.due("vote(" + i + ", 0, 0, 3)", x.vote(i, 0, 0, 3), BAD);
            CHECK.due("vote(0, 0, " + i + ", 0)", x.vote(0, 0, i, 0), BAD);
            CHECK.due("vote(0, 0, " + i + ", 3)", x.vote(0, 0, i, 3), BAD);
            CHECK.due("decided(" + i + ", 1, 0)", x.decided(i, 1, 0), BAD);
            CHECK.due("against(" + i + ")", x.against(i), BAD);
        }
        for (int i : outside(-1, last)) {
            CHECK.due("weightOf(" + i + ", 1)", x.weightOf(i, 1), BAD);
        }
    }

    private static void numbersThatTell(RoundVotes x) {
        for (int w : outside(1, 1_000_000)) {
            refused(x, "weight(0, " + w + ")", () -> x.weight(0, w), BAD);
        }
        for (int behaviour : outside(0, 5)) {
            refused(x, "behave(0, " + behaviour + ")", () -> x.behave(0, behaviour), BAD);
        }
        int next = x.count(1);
        for (int k : new int[] {LEAST, -1, next - 1}) {
            refused(x, "disturb(" + k + ", 0, 0)", () -> x.disturb(k, 0, 0), BAD);
        }
        for (int kind : outside(0, 2)) {
            refused(x, "disturb(next, " + kind + ", 1)", () -> x.disturb(next, kind, 1), BAD);
        }
        for (int by : outside(1, 20)) {
            refused(x, "disturb(next, 2, " + by + ")", () -> x.disturb(next, 2, by), BAD);
        }
        for (int turns : outside(1, 100)) {
            refused(x, "sides(1, " + turns + ")", () -> x.sides(1, turns), BAD);
            refused(x, "turn(" + turns + ")", () -> x.turn(turns), BAD);
        }
        for (int turns : outside(1, 50)) {
            refused(x, "cut(0, " + turns + ")", () -> x.cut(0, turns), BAD);
        }
    }

    private static void numbersThatAsk(RoundVotes x) {
        for (int what : outside(0, 12)) {
            CHECK.due("node(0, " + what + ")", x.node(0, what), BAD);
        }
        for (int round : outside(0, 29)) {
            CHECK.due("vote(0, " + round + ", 0, 0)", x.vote(0, round, 0, 0), BAD);
            CHECK.due("vote(0, " + round + ", 0, 3)", x.vote(0, round, 0, 3), BAD);
        }
        for (int kind : outside(0, 3)) {
            CHECK.due("vote(0, 0, 0, " + kind + ")", x.vote(0, 0, 0, kind), BAD);
            CHECK.due("decided(0, 1, " + kind + ")", x.decided(0, 1, kind), BAD);
            CHECK.due("decided(0, 40, " + kind + ")", x.decided(0, 40, kind), BAD);
        }
        for (int height : outside(1, 40)) {
            CHECK.due("decided(0, " + height + ", 0)", x.decided(0, height, 0), BAD);
            CHECK.due("unlike(" + height + ")", x.unlike(height), BAD);
            CHECK.due("weightOf(0, " + height + ")", x.weightOf(0, height), BAD);
            CHECK.due("weightOf(-1, " + height + ")", x.weightOf(-1, height), BAD);
        }
        for (int k : outside(-1, x.evidence(-1, 0) - 1)) {
            CHECK.due("evidence(" + k + ", 0)", x.evidence(k, 0), BAD);
        }
        for (int what : outside(0, 5)) {
            CHECK.due("evidence(0, " + what + ")", x.evidence(0, what), BAD);
            CHECK.due("evidence(-1, " + what + ")", x.evidence(-1, what), BAD);
        }
        CHECK.due("evidence(-1, 1)", x.evidence(-1, 1), BAD);
        for (int what : outside(0, 8)) {
            CHECK.due("count(" + what + ")", x.count(what), BAD);
        }
    }

    private static void allOutside(RoundVotes x) {
        nodeNumbers(x);
        numbersThatTell(x);
        numbersThatAsk(x);
    }

    private static void aheadOfTheFirstTurn(int n) {
        RoundVotes x = new RoundVotes(n, 7);
        allOutside(x);
        for (int i = 0; i < n; i++) {
            int node = i;
            refused(x, "cut(" + i + ", 1) at time 0", () -> x.cut(node, 1), NONE);
            refused(x, "cut(" + i + ", 50) at time 0", () -> x.cut(node, 50), NONE);
            refused(x, "catchUp(" + i + ") at time 0", () -> x.catchUp(node), NONE);
        }
    }

    /** Some are cut, disturbed, parted, and there is evidence. */
    private static RoundVotes running() {
        RoundVotes x = new RoundVotes(4, 7);
        x.behave(1, 3);
        x.disturb(40, 0, 0);
        x.turn(2);
        x.sides(1, 100);
        x.cut(0, 50);
        x.cut(3, 1);
        x.turn(1);
        return x;
    }

    private static void whileItRuns() {
        RoundVotes x = running();
        allOutside(x);
        refused(x, "cut(0, 1) while cut", () -> x.cut(0, 1), NONE);
        refused(x, "catchUp(0) while cut", () -> x.catchUp(0), NONE);
        refused(x, "cut(3, 50), it comes back with the next turn", () -> x.cut(3, 50), NONE);
        refused(x, "catchUp(3), it comes back with the next turn", () -> x.catchUp(3), NONE);
        refused(x, "catchUp(1), none has decided", () -> x.catchUp(1), 0);
        refused(x, "disturb(40, 1, 0), told before", () -> x.disturb(40, 1, 0), BAD);
    }

    private static void behindTheLastHeight() {
        RoundVotes x = new RoundVotes(4, 7);
        x.turn(100);
        x.turn(100);
        CHECK.due("count(5)", x.count(5), 40);
        allOutside(x);
        refused(x, "catchUp(0) in height 41", () -> x.catchUp(0), 0);
        refused(x, "weight(0, 5) in height 41", () -> x.weight(0, 5), 42);
    }

    /** The first and the last of each range, in a call that is taken. */
    private static void allInside() {
        RoundVotes x = new RoundVotes(10, 7);
        CHECK.due("weight(0, 1)", x.weight(0, 1), 1);
        CHECK.due("weight(9, 1000000)", x.weight(9, 1_000_000), 1);
        CHECK.due("weightOf(9, 1)", x.weightOf(9, 1), 1_000_000);
        CHECK.due("weightOf(9, 40)", x.weightOf(9, 40), 1_000_000);
        CHECK.due("weightOf(0, 1)", x.weightOf(0, 1), 1);
        CHECK.due("weightOf(-1, 1)", x.weightOf(-1, 1), 1_000_009);
        CHECK.due("weightOf(-1, 40)", x.weightOf(-1, 40), 1_000_009);
        CHECK.due("behave(0, 5)", x.behave(0, 5), 0);
        CHECK.due("behave(9, 0)", x.behave(9, 0), 0);
        CHECK.due("behave(0, 0)", x.behave(0, 0), 5);
        CHECK.due("disturb(0, 2, 1)", x.disturb(0, 2, 1), 1);
        CHECK.due("disturb(greatest, 2, 20)", x.disturb(GREATEST, 2, 20), 2);
        CHECK.due("disturb(1, 0, least)", x.disturb(1, 0, LEAST), 3);
        CHECK.due("disturb(2, 1, greatest)", x.disturb(2, 1, GREATEST), 4);
        CHECK.due("sides(least, 1)", x.sides(LEAST, 1), 1);
        CHECK.due("sides(greatest, 100)", x.sides(GREATEST, 100), 1);
        CHECK.due("turn(1)", x.turn(1), 1);
        CHECK.due("cut(0, 1)", x.cut(0, 1), 1);
        CHECK.due("cut(9, 50)", x.cut(9, 50), 1);
        CHECK.due("catchUp(8)", x.catchUp(8), 0);
        CHECK.due("node(0, 0)", x.node(0, 0), 1);
        CHECK.due("node(9, 7)", x.node(9, 7), 50);
        CHECK.due("node(9, 12)", x.node(9, 12), 0);
        CHECK.due("vote(9, 29, 9, 2)", x.vote(9, 29, 9, 2), NONE);
        CHECK.due("vote(9, 29, 9, 3)", x.vote(9, 29, 9, 3), -9);
        CHECK.due("vote(0, 0, 0, 0)", x.vote(0, 0, 0, 0), NONE);
        CHECK.due("decided(9, 40, 3)", x.decided(9, 40, 3), NONE);
        CHECK.due("decided(0, 1, 0)", x.decided(0, 1, 0), NONE);
        CHECK.due("unlike(1)", x.unlike(1), 0);
        CHECK.due("unlike(40)", x.unlike(40), 0);
        CHECK.due("evidence(-1, 0)", x.evidence(-1, 0), 0);
        CHECK.due("against(0)", x.against(0), 0);
        CHECK.due("against(9)", x.against(9), 0);
        CHECK.due("count(0)", x.count(0), 1);
        CHECK.due("count(8)", x.count(8), 99);
        CHECK.due("turn(100)", x.turn(100), 101);
    }

    public static void main(String[] args) {
        aheadOfTheFirstTurn(1);
        aheadOfTheFirstTurn(4);
        aheadOfTheFirstTurn(10);
        whileItRuns();
        behindTheLastHeight();
        allInside();
        CHECK.finish();
    }
}
