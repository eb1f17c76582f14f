/** Promises 13 and 14: evidence and against. */
public final class EvidenceTest {
    private static final Check CHECK = new Check();
    private static final int SEED = 7;

    private static void wrongInputs(RoundVotes x, int size) {
        CHECK.due("evidence(-1, 0)", x.evidence(-1, 0), size);
        CHECK.due("evidence(-1, 1)", x.evidence(-1, 1), RoundVotes.BAD);
        CHECK.due("evidence(-1, -1)", x.evidence(-1, -1), RoundVotes.BAD);
        CHECK.due("evidence(-2, 0)", x.evidence(-2, 0), RoundVotes.BAD);
        CHECK.due("evidence(" + size + ", 0)", x.evidence(size, 0), RoundVotes.BAD);
        CHECK.due("evidence(0, -1)", x.evidence(0, -1), RoundVotes.BAD);
        CHECK.due("evidence(0, 6)", x.evidence(0, 6), RoundVotes.BAD);
        CHECK.due("against(-1)", x.against(-1), RoundVotes.BAD);
        CHECK.due("against(4)", x.against(4), RoundVotes.BAD);
    }

    private static void evidenceIs(RoundVotes x, int k, int... due) {
        for (int what = 0; what < due.length; what++) {
            CHECK.due("evidence(" + k + ", " + what + ")", x.evidence(k, what), due[what]);
        }
    }

    /** Node 0 loses the second proposal, so node 2 is the first to see unlike ones. */
    private static void whoSawItFirst() {
        RoundVotes x = new RoundVotes(4, SEED);
        wrongInputs(x, 0);
        x.behave(1, 3);
        x.disturb(3, 0, 0);
        x.turn(2);
        wrongInputs(x, 2);
        evidenceIs(x, 0, 1, 1, 0, 0, 2, 2);
        evidenceIs(x, 1, 1, 1, 0, 1, 0, 2);
        CHECK.due("against(1)", x.against(1), 2);
        CHECK.due("against(0)", x.against(0), 0);
        x.turn(1);
        CHECK.due("evidence(-1, 0) in turn 3", x.evidence(-1, 0), 2);
        CHECK.due("against(1) in turn 3", x.against(1), 3);
        x.turn(1);
        // The others have decided when its second precommit comes: what is of a height behind is passed over.
        CHECK.due("evidence(-1, 0) in turn 4", x.evidence(-1, 0), 2);
    }

    private static void twoHundredAtMost() {
        RoundVotes x = new RoundVotes(4, SEED);
        for (int i = 0; i < 4; i++) {
            x.behave(i, 3);
        }
        x.turn(100);
        x.turn(100);
        wrongInputs(x, 200);
        int sum = 0;
        for (int i = 0; i < 4; i++) {
            sum += x.against(i);
        }
        CHECK.due("against goes on", sum > 300 ? 1 : 0, 1);
    }

    /** A two-faced node with one receiver sends but one value for each message. */
    private static void onlyWhatIsSentCounts() {
        RoundVotes two = new RoundVotes(2, SEED);
        two.behave(1, 2);
        two.turn(10);
        CHECK.due("against(1), two nodes", two.against(1), 0);
        RoundVotes silent = new RoundVotes(4, SEED);
        silent.behave(1, 1);
        silent.turn(10);
        CHECK.due("against(1), silent", silent.against(1), 0);
    }

    /**
     * A forgetful proposer whose value became valid in this round proposes it, as it comes back, with that round:
     * an unlike round is evidence, though the value is the same.
     */
    private static void proposalOfUnlikeRound() {
        RoundVotes x = new RoundVotes(4, SEED);
        x.behave(1, 4);
        x.turn(2);
        x.behave(0, 1);
        x.behave(2, 1);
        x.behave(3, 1);
        x.turn(1);
        CHECK.due("node(1, 6)", x.node(1, 6), 0);
        x.cut(1, 1);
        x.turn(3);
        CHECK.due("vote(1, 0, 1, 3)", x.vote(1, 0, 1, 3), 0);
        CHECK.due("vote(0, 0, 1, 3)", x.vote(0, 0, 1, 3), -1);
        CHECK.due("evidence(-1, 0)", x.evidence(-1, 0), 1);
        evidenceIs(x, 0, 1, 1, 0, 0, 0, 6);
        CHECK.due("against(1)", x.against(1), 0);
    }

    public static void main(String[] args) {
        whoSawItFirst();
        twoHundredAtMost();
        onlyWhatIsSentCounts();
        proposalOfUnlikeRound();
        CHECK.finish();
    }
}
