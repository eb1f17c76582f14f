/** Promise 6: cut, and how a node comes back. */
public final class CutTest {
    private static final Check CHECK = new Check();
    private static final int SEED = 7;
    private static final int VALUE = Check.own(SEED, 1, 1, 0);

    private static void wrongInputs() {
        RoundVotes x = new RoundVotes(4, SEED);
        CHECK.due("cut(0, 1) ahead of the first turn", x.cut(0, 1), RoundVotes.NONE);
        CHECK.due("cut(0, 0) ahead of the first turn", x.cut(0, 0), RoundVotes.BAD);
        x.turn(1);
        CHECK.due("cut(-1, 1)", x.cut(-1, 1), RoundVotes.BAD);
        CHECK.due("cut(4, 1)", x.cut(4, 1), RoundVotes.BAD);
        CHECK.due("cut(0, 0)", x.cut(0, 0), RoundVotes.BAD);
        CHECK.due("cut(0, -1)", x.cut(0, -1), RoundVotes.BAD);
        CHECK.due("cut(0, 51)", x.cut(0, 51), RoundVotes.BAD);
        CHECK.due("cut(0, 50)", x.cut(0, 50), 1);
        CHECK.due("node(0, 7)", x.node(0, 7), 50);
        CHECK.due("cut(0, 51) while cut", x.cut(0, 51), RoundVotes.BAD);
        CHECK.due("cut(0, 1) while cut", x.cut(0, 1), RoundVotes.NONE);
        CHECK.due("catchUp(0) while cut", x.catchUp(0), RoundVotes.NONE);
        x.turn(49);
        CHECK.due("node(0, 7) in turn 50", x.node(0, 7), 1);
        x.turn(1);
        CHECK.due("node(0, 7) in turn 51", x.node(0, 7), 0);
        CHECK.due("cut(0, 1), it comes back with the next turn", x.cut(0, 1), RoundVotes.NONE);
        CHECK.due("catchUp(0), it comes back with the next turn", x.catchUp(0), RoundVotes.NONE);
        x.turn(1);
        CHECK.due("cut(0, 1) in turn 52", x.cut(0, 1), 1);
    }

    /** In turn 3 node 0 locks; the others' precommits come in turn 4, when it is cut. */
    private static void keepsWhatItSigned() {
        RoundVotes x = new RoundVotes(4, SEED);
        x.turn(3);
        x.cut(0, 1);
        CHECK.due("vote(0, 0, 1, 1) when cut", x.vote(0, 0, 1, 1), VALUE);
        x.turn(1);
        CHECK.due("count(3)", x.count(3), 3);
        CHECK.due("node(0, 0) when cut", x.node(0, 0), 1);
        CHECK.due("node(0, 2) when cut", x.node(0, 2), 2);
        x.turn(1);
        int[] due = {1, 0, 0, VALUE, 0, VALUE, 0, 0, 0, 9, 0, 0, 6};
        for (int what = 0; what < due.length; what++) {
            CHECK.due("node(0, " + what + ") back", x.node(0, what), due[what]);
        }
        CHECK.due("vote(0, 0, 1, 0)", x.vote(0, 0, 1, 0), RoundVotes.NONE);
        CHECK.due("vote(0, 0, 1, 1)", x.vote(0, 0, 1, 1), RoundVotes.NONE);
        CHECK.due("vote(0, 0, 0, 1)", x.vote(0, 0, 0, 1), VALUE);
        CHECK.due("vote(0, 0, 0, 2)", x.vote(0, 0, 0, 2), VALUE);
        x.turn(4);
        CHECK.due("node(0, 2), P has ended", x.node(0, 2), 1);
        CHECK.due("vote(0, 0, 0, 1), the one it signed", x.vote(0, 0, 0, 1), VALUE);
        CHECK.due("node(0, 12), sent again", x.node(0, 12), 9);
        CHECK.due("against(0)", x.against(0), 0);
    }

    /** The proposer sends the same proposal and prevote again as it comes back; for others they are no news. */
    private static void sendsItsProposalAgain() {
        RoundVotes x = new RoundVotes(4, SEED);
        x.behave(2, 1);
        x.behave(3, 1);
        x.turn(1);
        x.cut(1, 1);
        x.turn(2);
        CHECK.due("node(1, 12)", x.node(1, 12), 12);
        CHECK.due("vote(1, 0, 1, 0)", x.vote(1, 0, 1, 0), VALUE);
        CHECK.due("node(1, 9)", x.node(1, 9), 7);
        x.turn(1);
        CHECK.due("evidence(-1, 0)", x.evidence(-1, 0), 0);
        CHECK.due("against(1)", x.against(1), 0);
    }

    /** Node 3 takes no part while it is cut: its timer P, that would end in turn 5, does nothing. */
    private static void doesNothingWhenCut() {
        RoundVotes x = new RoundVotes(4, SEED);
        x.behave(1, 1);
        x.turn(2);
        x.cut(3, 4);
        x.turn(4);
        CHECK.due("node(3, 2) in turn 6", x.node(3, 2), 0);
        CHECK.due("node(3, 12) in turn 6", x.node(3, 12), 0);
        CHECK.due("node(3, 9) in turn 6, as it was set", x.node(3, 9), 5);
        x.turn(1);
        CHECK.due("node(3, 9) in turn 7", x.node(3, 9), 11);
        x.turn(4);
        CHECK.due("vote(3, 0, 3, 1) in turn 11", x.vote(3, 0, 3, 1), 0);
    }

    private static void comesBackBehindTheLastHeight() {
        RoundVotes x = new RoundVotes(1, SEED);
        x.turn(1);
        CHECK.due("cut(0, 1)", x.cut(0, 1), 1);
        x.turn(5);
        CHECK.due("node(0, 0)", x.node(0, 0), 41);
        CHECK.due("node(0, 9)", x.node(0, 9), 0);
    }

    /** Cut for one turn: 1 turn still, then 0 though it is cut till the next one, then 0 as it is back. */
    private static void cutForOneTurn() {
        RoundVotes x = new RoundVotes(4, SEED);
        x.turn(1);
        CHECK.due("node(0, 7), not cut", x.node(0, 7), 0);
        CHECK.due("cut(0, 1)", x.cut(0, 1), 1);
        CHECK.due("node(0, 7), cut for 1", x.node(0, 7), 1);
        x.turn(1);
        CHECK.due("node(0, 7), it comes back with the next turn", x.node(0, 7), 0);
        CHECK.due("cut(0, 1), it comes back with the next turn", x.cut(0, 1), RoundVotes.NONE);
        CHECK.due("count(3), proposal and prevote of node 1", x.count(3), 2);
        CHECK.due("vote(0, 0, 1, 0) in turn 2", x.vote(0, 0, 1, 0), RoundVotes.NONE);
        x.turn(1);
        CHECK.due("node(0, 7), back", x.node(0, 7), 0);
        CHECK.due("node(0, 9), back", x.node(0, 9), 7);
        CHECK.due("vote(0, 0, 2, 1), it came in the turn in which it is back", x.vote(0, 0, 2, 1), VALUE);
        CHECK.due("count(3)", x.count(3), 2);
        CHECK.due("cut(0, 1), back", x.cut(0, 1), 1);
    }

    /**
     * Node 0 is cut from turn 2 to turn 51. Node 1, cut too, comes back in a given turn and proposes in it again; that
     * comes to node 0 in the next turn.
     */
    private static RoundVotes proposedAgainInTurn(int turn) {
        RoundVotes x = new RoundVotes(2, SEED);
        x.behave(0, 1);
        x.turn(1);
        CHECK.due("cut(0, 50)", x.cut(0, 50), 1);
        x.turn(turn - 3);
        x.cut(1, 1);
        x.turn(3);
        return x;
    }

    private static void lastTurnOfFifty() {
        RoundVotes inside = proposedAgainInTurn(50);
        CHECK.due("count(0)", inside.count(0), 51);
        CHECK.due("node(0, 7) in turn 51", inside.node(0, 7), 0);
        CHECK.due("count(3) in turn 51", inside.count(3), 4);
        inside.turn(1);
        CHECK.due("vote(0, 0, 1, 0) in turn 52", inside.vote(0, 0, 1, 0), RoundVotes.NONE);
        CHECK.due("node(0, 9) in turn 52, back", inside.node(0, 9), 56);
        RoundVotes outside = proposedAgainInTurn(51);
        CHECK.due("count(0)", outside.count(0), 52);
        CHECK.due("count(3) in turn 52", outside.count(3), 2);
        CHECK.due("vote(0, 0, 1, 0) in turn 52", outside.vote(0, 0, 1, 0), VALUE);
    }

    /** What a node sent ahead of its cut is under way still. */
    private static void whatItSentComes() {
        RoundVotes x = new RoundVotes(4, SEED);
        x.turn(1);
        x.cut(1, 50);
        x.turn(1);
        CHECK.due("count(2)", x.count(2), 6);
        CHECK.due("vote(0, 0, 1, 0)", x.vote(0, 0, 1, 0), VALUE);
        CHECK.due("count(3)", x.count(3), 0);
    }

    /** Its value became valid in round 0; what it sends again is the proposal that it signed, with - 1. */
    private static void proposalAgainAsItWasSigned() {
        RoundVotes x = new RoundVotes(4, SEED);
        x.turn(3);
        CHECK.due("node(1, 6) in turn 3", x.node(1, 6), 0);
        x.cut(0, 1);
        x.cut(1, 1);
        x.turn(3);
        CHECK.due("vote(0, 0, 1, 0) in turn 6", x.vote(0, 0, 1, 0), VALUE);
        CHECK.due("vote(0, 0, 1, 3) in turn 6", x.vote(0, 0, 1, 3), -1);
        CHECK.due("vote(1, 0, 1, 3) in turn 6", x.vote(1, 0, 1, 3), -1);
    }

    /** Node 1 proposed in round 0 and is in round 1 when it is cut: that counts for it again, what others sent does not. */
    private static void whatItSignedInAnEarlierRound() {
        RoundVotes x = new RoundVotes(4, SEED);
        for (int i = 0; i < 4; i++) {
            x.behave(i, 5);
        }
        x.turn(7);
        CHECK.due("vote(1, 0, 0, 1) in turn 7", x.vote(1, 0, 0, 1), 0);
        x.cut(1, 1);
        x.turn(2);
        CHECK.due("node(1, 1) in turn 9", x.node(1, 1), 1);
        CHECK.due("vote(1, 0, 1, 0) in turn 9", x.vote(1, 0, 1, 0), VALUE);
        CHECK.due("vote(1, 0, 1, 3) in turn 9", x.vote(1, 0, 1, 3), -1);
        CHECK.due("vote(1, 0, 1, 1) in turn 9", x.vote(1, 0, 1, 1), 0);
        CHECK.due("vote(1, 0, 1, 2) in turn 9", x.vote(1, 0, 1, 2), 0);
        CHECK.due("vote(1, 0, 0, 1) in turn 9, forgotten", x.vote(1, 0, 0, 1), RoundVotes.NONE);
    }

    /**
     * Node 1 is in height 1, nodes 2 and 3 are in height 2; all come back in turn 7. Nodes 1 and 2 are proposers there:
     * node 1 sends six copies, node 2 six behind it, of which the third is the proposal to node 3.
     */
    private static void comeBackByRisingNumbers() {
        for (int lost = 0; lost < 2; lost++) {
            RoundVotes x = new RoundVotes(4, SEED);
            x.turn(3);
            x.cut(1, 1);
            x.turn(2);
            for (int i = 1; i < 4; i++) {
                x.cut(i, 1);
            }
            x.turn(1);
            if (lost == 1) {
                x.disturb(x.count(1) + 6 + 2, 0, 0);
            }
            x.turn(2);
            CHECK.due("node(1, 0) in turn 8", x.node(1, 0), 1);
            CHECK.due("node(3, 0) in turn 8", x.node(3, 0), 2);
            int due = lost == 1 ? RoundVotes.NONE : Check.own(SEED, 2, 2, 0);
            CHECK.due("vote(3, 0, 2, 0) in turn 8", x.vote(3, 0, 2, 0), due);
        }
    }

    /**
     * Node 0 is back in turn 5, in height 1, and keeps what node 2 sends in height 2; cut again it forgets that. The
     * others precommit NIL in turn 6, which comes when it is back again.
     */
    private static void forgetsWhatItKeptForTheNextHeight() {
        RoundVotes x = new RoundVotes(4, SEED);
        x.turn(1);
        x.cut(0, 3);
        x.turn(4);
        x.cut(0, 1);
        for (int i = 1; i < 4; i++) {
            x.behave(i, 5);
        }
        x.turn(2);
        CHECK.due("catchUp(0) in turn 7", x.catchUp(0), 1);
        CHECK.due("vote(0, 0, 2, 0), forgotten", x.vote(0, 0, 2, 0), RoundVotes.NONE);
        CHECK.due("vote(0, 0, 2, 3), forgotten", x.vote(0, 0, 2, 3), -9);
        CHECK.due("vote(0, 0, 2, 1), forgotten", x.vote(0, 0, 2, 1), RoundVotes.NONE);
        CHECK.due("vote(0, 0, 2, 2), came in turn 7", x.vote(0, 0, 2, 2), 0);
    }

    /**
     * All but node 1 are cut when the precommits come; back, they have no proposal, prevote what they signed and, as V
     * ends in turn 13, precommit: not NIL, but what they signed.
     */
    private static void precommitAgainAsItWasSigned() {
        RoundVotes x = new RoundVotes(4, SEED);
        x.turn(3);
        x.cut(0, 1);
        x.cut(2, 1);
        x.cut(3, 1);
        x.turn(9);
        CHECK.due("node(0, 10) in turn 12", x.node(0, 10), 13);
        CHECK.due("node(0, 12) in turn 12", x.node(0, 12), 9);
        CHECK.due("vote(0, 0, 2, 2) in turn 12", x.vote(0, 0, 2, 2), RoundVotes.NONE);
        x.turn(1);
        CHECK.due("node(0, 2) in turn 13", x.node(0, 2), 2);
        CHECK.due("node(0, 12) in turn 13, sent again", x.node(0, 12), 12);
        x.turn(1);
        CHECK.due("vote(0, 0, 2, 2) in turn 14", x.vote(0, 0, 2, 2), VALUE);
        CHECK.due("vote(2, 0, 0, 2) in turn 14", x.vote(2, 0, 0, 2), VALUE);
        CHECK.due("against(0)", x.against(0), 0);
        CHECK.due("evidence(-1, 0)", x.evidence(-1, 0), 0);
    }

    /** A silent node signs what counts for it, though it sends nothing. */
    private static void silentNodeKeepsWhatItSigned() {
        RoundVotes x = new RoundVotes(4, SEED);
        x.behave(0, 1);
        x.turn(2);
        CHECK.due("silent: vote(0, 0, 0, 1) in turn 2", x.vote(0, 0, 0, 1), VALUE);
        x.cut(0, 1);
        x.turn(2);
        CHECK.due("silent: vote(0, 0, 1, 0) in turn 4, forgotten", x.vote(0, 0, 1, 0), RoundVotes.NONE);
        CHECK.due("silent: vote(0, 0, 0, 1) in turn 4", x.vote(0, 0, 0, 1), VALUE);
    }

    public static void main(String[] args) {
        proposalAgainAsItWasSigned();
        whatItSignedInAnEarlierRound();
        comeBackByRisingNumbers();
        forgetsWhatItKeptForTheNextHeight();
        cutForOneTurn();
        lastTurnOfFifty();
        whatItSentComes();
        wrongInputs();
        keepsWhatItSigned();
        sendsItsProposalAgain();
        doesNothingWhenCut();
        comesBackBehindTheLastHeight();
        precommitAgainAsItWasSigned();
        silentNodeKeepsWhatItSigned();
        CHECK.finish();
    }
}
