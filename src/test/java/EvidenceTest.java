import java.util.Arrays;
import java.util.HashSet;
import java.util.Set;

/** Promises 13 and 14: evidence and against. */
public final class EvidenceTest {
    private static final Check CHECK = new Check();
    private static final int SEED = 7;

    private static void wrongInputs(RoundVotes x, int size) {
        CHECK.due("evidence(-1, 0)", x.evidence(-1, 0), size);
        CHECK.due("evidence(-1, 1)", x.evidence(-1, 1), RoundVotes.BAD);
        CHECK.due("evidence(-1, -1)", x.evidence(-1, -1), RoundVotes.BAD);
        CHECK.due("evidence(-2, 0)", x.evidence(-2, 0), RoundVotes.BAD);
        CHECK.due("evidence(" + size + ", 0)", x.evidence(size, 0), RoundVotes.BAD);
        CHECK.due("evidence(0, -1)", x.evidence(0, -1), RoundVotes.BAD);
        CHECK.due("evidence(0, 6)", x.evidence(0, 6), RoundVotes.BAD);
        CHECK.due("against(-1)", x.against(-1), RoundVotes.BAD);
        CHECK.due("against(4)", x.against(4), RoundVotes.BAD);
    }

    private static void evidenceIs(RoundVotes x, int k, int... due) {
        for (int what = 0; what < due.length; what++) {
            CHECK.due("evidence(" + k + ", " + what + ")", x.evidence(k, what), due[what]);
        }
    }

    /** Node 0 loses the second proposal, so node 2 is the first to see unlike ones. */
    private static void whoSawItFirst() {
        RoundVotes x = new RoundVotes(4, SEED);
        wrongInputs(x, 0);
        x.behave(1, 3);
        x.disturb(3, 0, 0);
        x.turn(2);
        wrongInputs(x, 2);
        evidenceIs(x, 0, 1, 1, 0, 0, 2, 2);
        evidenceIs(x, 1, 1, 1, 0, 1, 0, 2);
        CHECK.due("against(1)", x.against(1), 2);
        CHECK.due("against(0)", x.against(0), 0);
        x.turn(1);
        CHECK.due("evidence(-1, 0) in turn 3", x.evidence(-1, 0), 2);
        CHECK.due("against(1) in turn 3", x.against(1), 3);
        x.turn(1);
        // The others have decided when its second precommit comes: what is of a height behind is passed over.
        CHECK.due("evidence(-1, 0) in turn 4", x.evidence(-1, 0), 2);
    }

    private static void twoHundredAtMost() {
        RoundVotes x = new RoundVotes(4, SEED);
        for (int i = 0; i < 4; i++) {
            x.behave(i, 3);
        }
        x.turn(100);
        x.turn(100);
        wrongInputs(x, 200);
        int sum = 0;
        for (int i = 0; i < 4; i++) {
            sum += x.against(i);
        }
        CHECK.due("against goes on", sum > 300 ? 1 : 0, 1);
    }

    /** A two-faced node with one receiver sends but one value for each message. */
    private static void onlyWhatIsSentCounts() {
        RoundVotes two = new RoundVotes(2, SEED);
        two.behave(1, 2);
        two.turn(10);
        CHECK.due("against(1), two nodes", two.against(1), 0);
        RoundVotes silent = new RoundVotes(4, SEED);
        silent.behave(1, 1);
        silent.turn(10);
        CHECK.due("against(1), silent", silent.against(1), 0);
    }

    /**
     * A forgetful proposer whose value became valid in this round proposes it, as it comes back, with that round:
     * an unlike round is evidence, though the value is the same.
     */
    private static void proposalOfUnlikeRound() {
        RoundVotes x = new RoundVotes(4, SEED);
        x.behave(1, 4);
        x.turn(2);
        x.behave(0, 1);
        x.behave(2, 1);
        x.behave(3, 1);
        x.turn(1);
        CHECK.due("node(1, 6)", x.node(1, 6), 0);
        x.cut(1, 1);
        x.turn(3);
        CHECK.due("vote(1, 0, 1, 3)", x.vote(1, 0, 1, 3), 0);
        CHECK.due("vote(0, 0, 1, 3)", x.vote(0, 0, 1, 3), -1);
        CHECK.due("evidence(-1, 0)", x.evidence(-1, 0), 1);
        evidenceIs(x, 0, 1, 1, 0, 0, 0, 6);
        CHECK.due("against(1)", x.against(1), 0);
    }

    private static int[] evidenceOf(RoundVotes x) {
        int[] parts = new int[6 * x.evidence(-1, 0)];
        for (int k = 0; k < parts.length; k++) {
            parts[k] = x.evidence(k / 6, k % 6);
        }
        return parts;
    }

    /** Ten nodes of which each sends two of each: the 200th is kept, the next one is not, and the others stay as they are. */
    private static void theLastOfTwoHundred() {
        RoundVotes x = new RoundVotes(10, SEED);
        for (int i = 0; i < 10; i++) {
            x.behave(i, 3);
        }
        int turns = 0;
        int[] ahead = {};
        for (; turns < 100 && x.evidence(-1, 0) < 200; turns++) {
            ahead = evidenceOf(x);
            x.turn(1);
        }
        int[] full = evidenceOf(x);
        CHECK.due("evidence(-1, 0)", x.evidence(-1, 0), 200);
        CHECK.due("some came ahead of that turn", ahead.length > 0 && ahead.length < full.length ? 1 : 0, 1);
        CHECK.due("the first ones are as they were", Arrays.equals(ahead, Arrays.copyOf(full, ahead.length)) ? 1 : 0, 1);
        CHECK.due("evidence(199, 5)", x.evidence(199, 5), turns);
        CHECK.due("evidence(200, 5)", x.evidence(200, 5), RoundVotes.BAD);
        x.turn(20);
        CHECK.due("against(0) + .. goes on", sumAgainst(x) > 200 ? 1 : 0, 1);
        CHECK.due("all are as they were", Arrays.equals(full, evidenceOf(x)) ? 1 : 0, 1);
        eachOnce(full);
    }

    private static int sumAgainst(RoundVotes x) {
        int sum = 0;
        for (int i = 0; i < x.count(6); i++) {
            sum += x.against(i);
        }
        return sum;
    }

    private static void eachOnce(int[] parts) {
        Set<String> seen = new HashSet<>();
        for (int k = 0; k < parts.length; k += 6) {
            String what = parts[k] + "/" + parts[k + 1] + "/" + parts[k + 2] + "/" + parts[k + 3];
            CHECK.due("evidence " + k / 6 + " is new", seen.add(what) ? 1 : 0, 1);
            CHECK.due("evidence " + k / 6 + " is in its turn", k == 0 || parts[k + 5] >= parts[k - 1] ? 1 : 0, 1);
        }
    }

    /** What was sent twice with unlike values counts once, to how many and how often ever: node 1 comes back and sends it again. */
    private static void againstCountsEachOnce() {
        RoundVotes x = new RoundVotes(4, SEED);
        x.behave(1, 3);
        x.behave(2, 1);
        x.behave(3, 1);
        x.turn(2);
        CHECK.due("against(1)", x.against(1), 2);
        CHECK.due("evidence(-1, 0)", x.evidence(-1, 0), 2);
        x.cut(1, 1);
        x.turn(3);
        CHECK.due("node(1, 12), sent again", x.node(1, 12), 24);
        CHECK.due("against(1), each once", x.against(1), 2);
        CHECK.due("evidence(-1, 0), each once", x.evidence(-1, 0), 2);
    }

    /** Kinds, rounds and heights are told apart: torn prevotes and precommits for NIL in rounds 0 and 1. */
    private static void againstCountsEachKindAndRound() {
        RoundVotes x = new RoundVotes(4, SEED);
        for (int i = 0; i < 4; i++) {
            x.behave(i, 5);
        }
        x.behave(0, 2);
        x.turn(1);
        CHECK.due("against(0) in turn 1", x.against(0), 0);
        x.turn(1);
        CHECK.due("against(0) in turn 2, a prevote", x.against(0), 1);
        x.turn(1);
        CHECK.due("against(0) in turn 3, a precommit", x.against(0), 2);
        x.turn(4);
        CHECK.due("node(0, 1) in turn 7", x.node(0, 1), 1);
        CHECK.due("against(0) in turn 7", x.against(0), 2);
        x.turn(1);
        CHECK.due("against(0) in turn 8, a prevote of round 1", x.against(0), 3);
    }

    /** To nodes of even numbers alone, or odd ones alone, one value is sent. */
    private static void twoFacedToOneSort() {
        RoundVotes evens = new RoundVotes(3, SEED);
        evens.behave(1, 2);
        evens.turn(4);
        CHECK.due("against(1), to nodes 0 and 2", evens.against(1), 0);
        RoundVotes odds = new RoundVotes(2, SEED);
        odds.behave(0, 2);
        odds.turn(4);
        CHECK.due("vote(1, 0, 0, 1), the other value", odds.vote(1, 0, 0, 1), 0);
        CHECK.due("against(0), to node 1", odds.against(0), 0);
        RoundVotes all = new RoundVotes(3, SEED);
        all.behave(2, 2);
        all.turn(2);
        CHECK.due("against(2), to nodes 0 and 1", all.against(2), 1);
    }

    /** All vote NIL till round 1, in which node 0 prevotes for two values in turn 8. */
    private static void evidenceOfALaterRound() {
        RoundVotes x = new RoundVotes(4, SEED);
        for (int i = 0; i < 4; i++) {
            x.behave(i, 5);
        }
        x.turn(7);
        x.behave(0, 3);
        x.turn(2);
        CHECK.due("evidence(-1, 0) in turn 9", x.evidence(-1, 0), 1);
        evidenceIs(x, 0, 0, 1, 1, 1, 1, 9);
    }

    /** Node 0 sends two of each in rounds 0 and 1: that is told of each round, though kinds and height are the same. */
    private static void evidenceOfEachRound() {
        RoundVotes x = new RoundVotes(4, SEED);
        for (int i = 0; i < 4; i++) {
            x.behave(i, i == 0 ? 3 : 5);
        }
        x.turn(6);
        CHECK.due("evidence(-1, 0) in turn 6", x.evidence(-1, 0), 2);
        evidenceIs(x, 0, 0, 1, 0, 1, 1, 3);
        evidenceIs(x, 1, 0, 1, 0, 2, 1, 4);
        x.turn(3);
        CHECK.due("node(0, 1) in turn 9", x.node(0, 1), 1);
        CHECK.due("evidence(-1, 0) in turn 9", x.evidence(-1, 0), 3);
        evidenceIs(x, 2, 0, 1, 1, 1, 1, 9);
    }

    public static void main(String[] args) {
        evidenceOfALaterRound();
        evidenceOfEachRound();
        theLastOfTwoHundred();
        againstCountsEachOnce();
        againstCountsEachKindAndRound();
        twoFacedToOneSort();
        whoSawItFirst();
        twoHundredAtMost();
        onlyWhatIsSentCounts();
        proposalOfUnlikeRound();
        CHECK.finish();
    }
}
