/** Promise 7: turn, and how rules and timers go in turns. */
public final class TurnTest {
    private static final Check CHECK = new Check();
    private static final int SEED = 7;
    private static final int VALUE = Check.own(SEED, 1, 1, 0);

    private static void answers() {
        RoundVotes x = new RoundVotes(4, SEED);
        CHECK.due("turn(0)", x.turn(0), RoundVotes.BAD);
        CHECK.due("turn(-1)", x.turn(-1), RoundVotes.BAD);
        CHECK.due("turn(101)", x.turn(101), RoundVotes.BAD);
        CHECK.due("count(0)", x.count(0), 0);
        CHECK.due("turn(1)", x.turn(1), 1);
        CHECK.due("turn(100)", x.turn(100), 101);
        CHECK.due("turn(101)", x.turn(101), RoundVotes.BAD);
        CHECK.due("turn(1)", x.turn(1), 102);
    }

    private static void ordinaryHeight() {
        RoundVotes x = new RoundVotes(4, SEED);
        int[] steps = {0, 1, 2, 0};
        int[] heights = {1, 1, 1, 2};
        for (int k = 0; k < 4; k++) {
            x.turn(1);
            CHECK.due("node(0, 0) in turn " + (k + 1), x.node(0, 0), heights[k]);
            CHECK.due("node(0, 2) in turn " + (k + 1), x.node(0, 2), steps[k]);
        }
        CHECK.due("decided(0, 1, 0)", x.decided(0, 1, 0), VALUE);
        CHECK.due("node(0, 9), timer P anew", x.node(0, 9), 8);
    }

    private static void oneNodeDecidesAllAtOnce() {
        RoundVotes x = new RoundVotes(1, SEED);
        x.turn(1);
        for (int h = 1; h <= 40; h++) {
            CHECK.due("decided(0, " + h + ", 0)", x.decided(0, h, 0), Check.own(SEED, 0, h, 0));
        }
        CHECK.due("node(0, 0)", x.node(0, 0), 41);
        CHECK.due("count(1)", x.count(1), 0);
    }

    /** All vote NIL: rule E in turn 3, rule G in turn 4, and each round takes one turn more. */
    private static void roundsOfNil() {
        RoundVotes x = new RoundVotes(4, SEED);
        for (int i = 0; i < 4; i++) {
            x.behave(i, 5);
        }
        x.turn(3);
        CHECK.due("node(0, 2) in turn 3", x.node(0, 2), 2);
        CHECK.due("vote(0, 0, 0, 2) in turn 3", x.vote(0, 0, 0, 2), 0);
        CHECK.due("node(0, 11) in turn 3", x.node(0, 11), 0);
        x.turn(1);
        CHECK.due("node(0, 11) in turn 4", x.node(0, 11), 7);
        x.turn(2);
        CHECK.due("node(0, 1) in turn 6", x.node(0, 1), 0);
        CHECK.due("node(0, 9), timer P has ended", x.node(0, 9), 0);
        x.turn(1);
        CHECK.due("node(0, 1) in turn 7", x.node(0, 1), 1);
        CHECK.due("node(0, 2) in turn 7", x.node(0, 2), 0);
        CHECK.due("node(0, 9) in turn 7", x.node(0, 9), 12);
        CHECK.due("node(0, 11) in turn 7", x.node(0, 11), 0);
        CHECK.due("vote(2, 1, 2, 0), proposer of round 1", x.vote(2, 1, 2, 0), Check.own(SEED, 2, 1, 1));
        x.turn(3);
        CHECK.due("node(0, 11) in turn 10", x.node(0, 11), 14);
        x.turn(4);
        CHECK.due("vote(3, 2, 3, 0), proposer of round 2", x.vote(3, 2, 3, 0), Check.own(SEED, 3, 1, 2));
        for (int k = 0; k < 8; k++) {
            x.turn(100);
        }
        for (int i = 0; i < 4; i++) {
            CHECK.due("node(" + i + ", 1), the last round", x.node(i, 1), 29);
            CHECK.due("node(" + i + ", 2), the last round", x.node(i, 2), 2);
            CHECK.due("node(" + i + ", 11), the last round", x.node(i, 11), 0);
        }
        CHECK.due("count(5)", x.count(5), 0);
    }

    /** Three of four prevote unlike: timer V, set by rule F, ends in a precommit for NIL. */
    private static void timerV() {
        RoundVotes x = new RoundVotes(4, SEED);
        x.behave(0, 5);
        x.behave(3, 1);
        x.turn(3);
        CHECK.due("node(1, 2) in turn 3", x.node(1, 2), 1);
        CHECK.due("node(1, 10) in turn 3", x.node(1, 10), 6);
        x.turn(2);
        CHECK.due("node(1, 2) in turn 5", x.node(1, 2), 1);
        x.turn(1);
        CHECK.due("node(1, 2) in turn 6", x.node(1, 2), 2);
        CHECK.due("node(1, 10) in turn 6", x.node(1, 10), 0);
        CHECK.due("vote(1, 0, 1, 2) in turn 6", x.vote(1, 0, 1, 2), 0);
    }

    /** Nodes 0 and 3 precommit NIL, so the locked value is proposed again as valid since round 0. */
    private static RoundVotes valueLockedWithoutDecision() {
        RoundVotes x = new RoundVotes(4, SEED);
        x.turn(2);
        x.behave(0, 5);
        x.behave(3, 5);
        x.turn(2);
        return x;
    }

    private static void validIsProposedAgain() {
        RoundVotes x = valueLockedWithoutDecision();
        CHECK.due("node(1, 11) in turn 4", x.node(1, 11), 7);
        CHECK.due("count(5) in turn 4", x.count(5), 0);
        x.behave(0, 0);
        x.behave(3, 0);
        x.turn(3);
        CHECK.due("vote(2, 1, 2, 0)", x.vote(2, 1, 2, 0), VALUE);
        CHECK.due("vote(2, 1, 2, 3)", x.vote(2, 1, 2, 3), 0);
        x.turn(1);
        CHECK.due("vote(0, 1, 2, 3)", x.vote(0, 1, 2, 3), 0);
        CHECK.due("vote(0, 1, 0, 1)", x.vote(0, 1, 0, 1), VALUE);
        x.turn(2);
        CHECK.due("decided(0, 1, 0)", x.decided(0, 1, 0), VALUE);
        CHECK.due("decided(0, 1, 1)", x.decided(0, 1, 1), 1);
    }

    /** Node 3 is cut through round 0, in which the others vote NIL. */
    private static RoundVotes nodeThreeLeftInRoundZero(int weightOfTwo) {
        RoundVotes x = new RoundVotes(4, SEED);
        int[] weights = {3, 3, weightOfTwo, 2};
        for (int i = 0; i < 4; i++) {
            x.weight(i, weights[i]);
            x.behave(i, 5);
        }
        x.turn(1);
        x.cut(3, 5);
        x.turn(5);
        return x;
    }

    /** It joins round 1 by rule B, not when messages of one third of the weights have come, but of more. */
    private static void joinsALaterRound() {
        RoundVotes x = nodeThreeLeftInRoundZero(4);
        x.turn(1);
        CHECK.due("node(0, 1) in turn 7", x.node(0, 1), 1);
        CHECK.due("node(3, 1) in turn 7", x.node(3, 1), 0);
        x.turn(1);
        CHECK.due("vote(3, 1, 2, 1) in turn 8", x.vote(3, 1, 2, 1), 0);
        CHECK.due("node(3, 1) in turn 8, of one third", x.node(3, 1), 0);
        x.turn(1);
        CHECK.due("node(3, 1) in turn 9, of more", x.node(3, 1), 1);
        CHECK.due("node(3, 9) in turn 9", x.node(3, 9), 14);
    }

    /** A proposal alone is enough, where its sender weighs enough: its prevote to node 3 is lost. */
    private static void joinsByAProposal() {
        RoundVotes x = nodeThreeLeftInRoundZero(5);
        x.disturb(x.count(1) + 5, 0, 0);
        x.turn(2);
        CHECK.due("vote(3, 1, 2, 0) in turn 8", x.vote(3, 1, 2, 0), Check.own(SEED, 2, 1, 1));
        CHECK.due("vote(3, 1, 2, 1) in turn 8", x.vote(3, 1, 2, 1), RoundVotes.NONE);
        CHECK.due("node(3, 1) in turn 8", x.node(3, 1), 1);
    }

    /** A precommit alone is enough, too: what all others send to node 3 ahead of it in round 1 is lost. */
    private static void joinsByAPrecommit() {
        RoundVotes x = nodeThreeLeftInRoundZero(5);
        for (int lost : new int[] {2, 5, 8, 11}) {
            x.disturb(x.count(1) + lost, 0, 0);
        }
        x.turn(3);
        CHECK.due("node(2, 2) in turn 9", x.node(2, 2), 2);
        CHECK.due("node(3, 1) in turn 9", x.node(3, 1), 0);
        x.turn(1);
        CHECK.due("vote(3, 1, 2, 0) in turn 10", x.vote(3, 1, 2, 0), RoundVotes.NONE);
        CHECK.due("vote(3, 1, 2, 1) in turn 10", x.vote(3, 1, 2, 1), RoundVotes.NONE);
        CHECK.due("vote(3, 1, 2, 2) in turn 10", x.vote(3, 1, 2, 2), 0);
        CHECK.due("node(3, 1) in turn 10", x.node(3, 1), 1);
    }

    /** Nodes 1 to 3 prevote NIL, and node 0 does not get the proposal: rule E waits for its own prevote, by timer P. */
    private static void notInProposeByPrevotesForNil() {
        RoundVotes x = new RoundVotes(4, SEED);
        for (int i = 1; i < 4; i++) {
            x.behave(i, 5);
        }
        x.disturb(0, 0, 0);
        x.turn(4);
        CHECK.due("vote(0, 0, 1, 1) in turn 4", x.vote(0, 0, 1, 1), 0);
        CHECK.due("vote(0, 0, 2, 1) in turn 4", x.vote(0, 0, 2, 1), 0);
        CHECK.due("vote(0, 0, 3, 1) in turn 4", x.vote(0, 0, 3, 1), 0);
        CHECK.due("node(0, 2) in turn 4", x.node(0, 2), 0);
        x.turn(1);
        CHECK.due("node(0, 2) in turn 5", x.node(0, 2), 2);
        CHECK.due("vote(0, 0, 0, 1) in turn 5", x.vote(0, 0, 0, 1), 0);
        CHECK.due("vote(0, 0, 0, 2) in turn 5", x.vote(0, 0, 0, 2), 0);
        CHECK.due("node(0, 10) in turn 5, E goes ahead of F", x.node(0, 10), 0);
    }

    /** V is set in turn 3; the late prevote of node 3 (copy 13) makes node 1 precommit in turn 4, and V ends in vain. */
    private static void timerVInPrecommit() {
        RoundVotes x = new RoundVotes(4, SEED);
        x.behave(0, 5);
        x.disturb(13, 2, 1);
        x.turn(2);
        x.behave(2, 5);
        x.behave(3, 5);
        x.turn(3);
        CHECK.due("node(1, 2) in turn 5", x.node(1, 2), 2);
        CHECK.due("node(1, 3) in turn 5", x.node(1, 3), VALUE);
        CHECK.due("node(1, 10) in turn 5", x.node(1, 10), 6);
        CHECK.due("node(1, 12) in turn 5", x.node(1, 12), 9);
        x.turn(1);
        CHECK.due("node(1, 10) in turn 6", x.node(1, 10), 0);
        CHECK.due("node(1, 12) in turn 6", x.node(1, 12), 9);
        CHECK.due("vote(1, 0, 1, 2) in turn 6", x.vote(1, 0, 1, 2), VALUE);
    }

    /** Node 0, back in turn 3, gets the precommits in turn 4: both P and C end in turn 7, P ahead of C. */
    private static void timerPAheadOfC() {
        RoundVotes x = new RoundVotes(4, SEED);
        for (int i = 0; i < 4; i++) {
            x.behave(i, 5);
        }
        x.turn(1);
        x.cut(0, 1);
        x.turn(5);
        CHECK.due("node(0, 9) in turn 6", x.node(0, 9), 7);
        CHECK.due("node(0, 11) in turn 6", x.node(0, 11), 7);
        CHECK.due("vote(0, 0, 0, 1) in turn 6", x.vote(0, 0, 0, 1), RoundVotes.NONE);
        x.turn(1);
        CHECK.due("vote(0, 0, 0, 1) in turn 7", x.vote(0, 0, 0, 1), 0);
        CHECK.due("node(0, 1) in turn 7", x.node(0, 1), 1);
    }

    /** In turn 5 timer P makes nodes 0, 2 and 3 prevote, one behind the other: copy 0 is node 0's. */
    private static void timersNodeByNode() {
        RoundVotes x = new RoundVotes(4, SEED);
        x.behave(1, 1);
        x.disturb(0, 0, 0);
        x.disturb(8, 0, 0);
        x.turn(6);
        CHECK.due("vote(1, 0, 0, 1), copy 0 lost", x.vote(1, 0, 0, 1), RoundVotes.NONE);
        CHECK.due("vote(1, 0, 2, 1)", x.vote(1, 0, 2, 1), 0);
        CHECK.due("vote(1, 0, 3, 1)", x.vote(1, 0, 3, 1), 0);
        CHECK.due("vote(2, 0, 3, 1), copy 8 lost", x.vote(2, 0, 3, 1), RoundVotes.NONE);
    }

    /** The late proposal comes in turn 5, in which timer P would end in a prevote for NIL. */
    private static void copiesComeAheadOfTimers() {
        RoundVotes x = new RoundVotes(4, SEED);
        x.behave(2, 1);
        x.behave(3, 1);
        x.disturb(0, 2, 3);
        x.turn(4);
        CHECK.due("node(0, 2) in turn 4", x.node(0, 2), 0);
        x.turn(1);
        CHECK.due("vote(0, 0, 0, 1) in turn 5", x.vote(0, 0, 0, 1), VALUE);
        CHECK.due("node(0, 9) in turn 5", x.node(0, 9), 0);
    }

    /** Node 0, back in turn 3, prevotes NIL by P in turn 7 and sets V; in the same turn C ends: round 1 has timer P alone. */
    private static void beginLeavesNoTimer() {
        RoundVotes x = new RoundVotes(4, SEED);
        x.turn(1);
        x.cut(0, 1);
        x.turn(5);
        CHECK.due("node(0, 9) in turn 6", x.node(0, 9), 7);
        CHECK.due("node(0, 10) in turn 6", x.node(0, 10), 0);
        CHECK.due("node(0, 11) in turn 6", x.node(0, 11), 7);
        x.turn(1);
        CHECK.due("vote(0, 0, 0, 1) in turn 7", x.vote(0, 0, 0, 1), 0);
        CHECK.due("node(0, 1) in turn 7", x.node(0, 1), 1);
        CHECK.due("node(0, 9) in turn 7", x.node(0, 9), 12);
        CHECK.due("node(0, 10) in turn 7", x.node(0, 10), 0);
        CHECK.due("node(0, 11) in turn 7", x.node(0, 11), 0);
    }

    /**
     * All vote NIL; node 3 is back in turn 3, so its timer P ends in turn 7, as timer C of all does. Node 2 proposes
     * in round 1 ahead of node 3's prevote in round 0: C of one node goes ahead of P of the next.
     */
    private static void timersOfOneNodeAheadOfTheNext() {
        RoundVotes x = new RoundVotes(4, SEED);
        for (int i = 0; i < 4; i++) {
            x.behave(i, 5);
        }
        x.turn(1);
        x.cut(3, 1);
        x.turn(5);
        int next = x.count(1);
        CHECK.due("node(2, 11) in turn 6", x.node(2, 11), 7);
        CHECK.due("node(3, 9) in turn 6", x.node(3, 9), 7);
        x.disturb(next, 0, 0);
        x.turn(2);
        CHECK.due("vote(0, 1, 2, 0), the first copy of turn 7", x.vote(0, 1, 2, 0), RoundVotes.NONE);
        CHECK.due("vote(1, 1, 2, 0)", x.vote(1, 1, 2, 0), Check.own(SEED, 2, 1, 1));
        CHECK.due("vote(0, 0, 3, 1), a later copy", x.vote(0, 0, 3, 1), 0);
    }

    public static void main(String[] args) {
        answers();
        ordinaryHeight();
        oneNodeDecidesAllAtOnce();
        roundsOfNil();
        timerV();
        validIsProposedAgain();
        joinsALaterRound();
        joinsByAProposal();
        joinsByAPrecommit();
        notInProposeByPrevotesForNil();
        timerVInPrecommit();
        timerPAheadOfC();
        timersNodeByNode();
        copiesComeAheadOfTimers();
        beginLeavesNoTimer();
        timersOfOneNodeAheadOfTheNext();
        CHECK.finish();
    }
}
