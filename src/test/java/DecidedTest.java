/** Promises 11 and 12: decided and unlike. */
public final class DecidedTest {
    private static final Check CHECK = new Check();
    private static final int SEED = 7;

    private static void wrongInputs(RoundVotes x) {
        CHECK.due("decided(-1, 1, 0)", x.decided(-1, 1, 0), RoundVotes.BAD);
        CHECK.due("decided(3, 1, 0)", x.decided(3, 1, 0), RoundVotes.BAD);
        CHECK.due("decided(0, 0, 0)", x.decided(0, 0, 0), RoundVotes.BAD);
        CHECK.due("decided(0, 41, 0)", x.decided(0, 41, 0), RoundVotes.BAD);
        CHECK.due("decided(0, 1, -1)", x.decided(0, 1, -1), RoundVotes.BAD);
        CHECK.due("decided(0, 1, 4)", x.decided(0, 1, 4), RoundVotes.BAD);
        CHECK.due("unlike(0)", x.unlike(0), RoundVotes.BAD);
        CHECK.due("unlike(-1)", x.unlike(-1), RoundVotes.BAD);
        CHECK.due("unlike(41)", x.unlike(41), RoundVotes.BAD);
        CHECK.due("unlike(40)", x.unlike(40), 0);
        CHECK.due("decided(0, 40, 0)", x.decided(0, 40, 0), RoundVotes.NONE);
    }

    /**
     * Nodes 0 (weight 5), 1 and 2 (3 each); node 0 with either of the others is many. Node 1 decides its value
     * in round 0 of what node 0 precommits, and node 2 hears nothing of it. Node 2 proposes in round 1.
     */
    private static RoundVotes torn(int behaviourOfZero) {
        RoundVotes x = new RoundVotes(3, SEED);
        x.weight(0, 5);
        x.weight(1, 3);
        x.weight(2, 3);
        x.behave(0, behaviourOfZero);
        x.disturb(1, 0, 0);
        x.disturb(3, 0, 0);
        x.disturb(8, 0, 0);
        x.disturb(9, 0, 0);
        wrongInputs(x);
        x.turn(3);
        CHECK.due("decided(1, 1, 0)", x.decided(1, 1, 0), Check.own(SEED, 1, 1, 0));
        CHECK.due("decided(1, 1, 1)", x.decided(1, 1, 1), 0);
        CHECK.due("decided(1, 1, 2)", x.decided(1, 1, 2), 3);
        CHECK.due("decided(1, 1, 3)", x.decided(1, 1, 3), 8);
        CHECK.due("decided(0, 1, 0)", x.decided(0, 1, 0), RoundVotes.NONE);
        CHECK.due("decided(2, 1, 3)", x.decided(2, 1, 3), RoundVotes.NONE);
        CHECK.due("count(5)", x.count(5), 1);
        x.turn(10);
        wrongInputs(x);
        return x;
    }

    private static void forgetfulNodeTearsAHeight() {
        RoundVotes x = torn(4);
        CHECK.due("decided(2, 1, 0)", x.decided(2, 1, 0), Check.own(SEED, 2, 1, 1));
        CHECK.due("decided(2, 1, 1)", x.decided(2, 1, 1), 1);
        CHECK.due("decided(2, 1, 2)", x.decided(2, 1, 2), 5);
        CHECK.due("decided(2, 1, 3)", x.decided(2, 1, 3), 8);
        CHECK.due("unlike(1)", x.unlike(1), 1);
        CHECK.due("unlike(2)", x.unlike(2), 0);
    }

    private static void lockedNodeDoesNot() {
        RoundVotes x = torn(0);
        CHECK.due("vote(0, 1, 0, 1), NIL by its lock", x.vote(0, 1, 0, 1), 0);
        CHECK.due("node(0, 3)", x.node(0, 3), Check.own(SEED, 1, 1, 0));
        CHECK.due("decided(2, 1, 0)", x.decided(2, 1, 0), RoundVotes.NONE);
        CHECK.due("unlike(1)", x.unlike(1), 0);
    }

    /**
     * Node 1 weighs 5 and is forgetful. Node 0 decides its value in round 0, of what node 1 precommits; node 2 does not
     * get that proposal, and node 1 not node 0's precommit, so these two decide node 2's value in round 1.
     */
    private static void nodeZeroAloneDecidedAnother() {
        RoundVotes x = new RoundVotes(3, SEED);
        x.weight(0, 3);
        x.weight(1, 5);
        x.weight(2, 3);
        x.behave(1, 4);
        x.disturb(1, 0, 0);
        x.disturb(6, 0, 0);
        x.disturb(9, 2, 4);
        x.turn(12);
        CHECK.due("decided(0, 1, 0) in turn 12", x.decided(0, 1, 0), Check.own(SEED, 1, 1, 0));
        CHECK.due("decided(1, 1, 0) in turn 12", x.decided(1, 1, 0), RoundVotes.NONE);
        CHECK.due("unlike(1) in turn 12", x.unlike(1), 0);
        x.turn(1);
        CHECK.due("decided(2, 1, 0) in turn 13", x.decided(2, 1, 0), Check.own(SEED, 2, 1, 1));
        CHECK.due("unlike(1) in turn 13", x.unlike(1), 1);
        x.turn(1);
        CHECK.due("decided(1, 1, 0) in turn 14", x.decided(1, 1, 0), Check.own(SEED, 2, 1, 1));
        CHECK.due("unlike(1) in turn 14", x.unlike(1), 1);
    }

    private static void weightsAreOfTheHeight() {
        RoundVotes x = new RoundVotes(4, SEED);
        x.turn(5);
        x.weight(0, 100);
        CHECK.due("decided(0, 1, 2)", x.decided(0, 1, 2), 13);
        CHECK.due("decided(0, 1, 3)", x.decided(0, 1, 3), 3);
    }

    public static void main(String[] args) {
        forgetfulNodeTearsAHeight();
        lockedNodeDoesNot();
        nodeZeroAloneDecidedAnother();
        weightsAreOfTheHeight();
        CHECK.finish();
    }
}
