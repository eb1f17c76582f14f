/**
 * Rule C with a lock: though another value is locked, one that is valid since the very round of the lock is prevoted, and
 * one that is valid since a round ahead of it is not.
 */
public final class LockTest {
    private static final Check CHECK = new Check();
    private static final int SEED = 7;
    private static final int VALUE = Check.own(SEED, 1, 1, 0);
    private static final int LOST = 0, LATE = 2;

    /**
     * Nodes 0 (weight 5, forgetful), 1 and 2 (3 each); node 0 with either of the others is many. Node 1 proposes
     * unlike values in round 0: it locks the first one with node 0, and node 2 the other one, once node 0 was cut
     * and has forgotten its vote.
     */
    private static RoundVotes twoLocksOfOneRound() {
        RoundVotes x = new RoundVotes(3, SEED);
        x.weight(0, 5);
        x.weight(1, 3);
        x.weight(2, 3);
        x.behave(0, 4);
        x.behave(1, 3);
        for (int lost : new int[] {1, 9, 12, 13, 15, 18, 19, 20, 21}) {
            x.disturb(lost, LOST, 0);
        }
        x.disturb(2, LATE, 4);
        x.disturb(10, LATE, 4);
        x.disturb(11, LATE, 20);
        x.disturb(14, LATE, 4);
        x.disturb(16, LATE, 16);
        x.disturb(25, LATE, 5);
        x.turn(1);
        x.behave(1, 0);
        x.turn(2);
        x.cut(0, 1);
        x.turn(4);
        return x;
    }

    private static void lockOfTheSameRoundGivesWay() {
        RoundVotes x = twoLocksOfOneRound();
        CHECK.due("node(1, 3), the first value", x.node(1, 3), VALUE);
        CHECK.due("node(1, 4)", x.node(1, 4), 0);
        CHECK.due("node(2, 3), the other value", x.node(2, 3), VALUE + 1);
        CHECK.due("node(0, 3), locked anew", x.node(0, 3), VALUE + 1);
        x.turn(10);
        CHECK.due("node(1, 1) in turn 17", x.node(1, 1), 1);
        CHECK.due("vote(2, 1, 2, 0), proposed again", x.vote(2, 1, 2, 0), VALUE + 1);
        CHECK.due("vote(2, 1, 2, 3), since round 0", x.vote(2, 1, 2, 3), 0);
        x.cut(1, 4);
        x.turn(5);
        CHECK.due("node(1, 2) in turn 22", x.node(1, 2), 0);
        x.turn(1);
        CHECK.due("vote(1, 1, 1, 1) in turn 23", x.vote(1, 1, 1, 1), VALUE + 1);
        CHECK.due("node(1, 3), still locked", x.node(1, 3), VALUE);
    }

    /**
     * The same weights. Nodes 0 and 1 lock node 1's value in round 0, of which node 2 gets the prevotes alone; node 2
     * locks its own value in round 1 with node 0's prevote, of which node 0 gets no prevote. In round 2 node 0 proposes
     * what is valid since round 0.
     */
    private static void lockOfALaterRoundStands() {
        RoundVotes x = new RoundVotes(3, SEED);
        x.weight(0, 5);
        x.weight(1, 3);
        x.weight(2, 3);
        x.behave(0, 4);
        for (int lost : new int[] {1, 6, 8, 9, 16, 17}) {
            x.disturb(lost, LOST, 0);
        }
        x.turn(22);
        CHECK.due("node(2, 3) in turn 22, its own value", x.node(2, 3), Check.own(SEED, 2, 1, 1));
        CHECK.due("node(2, 4) in turn 22", x.node(2, 4), 1);
        x.turn(1);
        CHECK.due("vote(2, 2, 0, 0) in turn 23", x.vote(2, 2, 0, 0), VALUE);
        CHECK.due("vote(2, 2, 0, 3) in turn 23", x.vote(2, 2, 0, 3), 0);
        CHECK.due("vote(2, 0, 0, 1), of MANY", x.vote(2, 0, 0, 1), VALUE);
        CHECK.due("vote(2, 0, 1, 1), of MANY", x.vote(2, 0, 1, 1), VALUE);
        CHECK.due("vote(2, 2, 2, 1), NIL by its lock", x.vote(2, 2, 2, 1), 0);
        CHECK.due("vote(1, 2, 1, 1), locked in round 0", x.vote(1, 2, 1, 1), VALUE);
    }

    /**
     * All lock the value in round 0, and nodes 0 to 2 in round 1 again, of which node 3 gets too few prevotes (copies 35
     * and 38 are lost); each time two precommit NIL. In round 2 node 3 proposes the value as valid since round 0.
     */
    private static void lockOfTheSameValueIsNoHindrance() {
        RoundVotes x = new RoundVotes(4, SEED);
        x.disturb(35, LOST, 0);
        x.disturb(38, LOST, 0);
        x.turn(2);
        x.behave(0, 5);
        x.behave(3, 5);
        x.turn(2);
        x.behave(0, 0);
        x.behave(3, 0);
        x.turn(4);
        x.behave(0, 5);
        x.behave(2, 5);
        x.turn(7);
        CHECK.due("node(1, 1) in turn 15", x.node(1, 1), 2);
        CHECK.due("node(1, 3) in turn 15", x.node(1, 3), VALUE);
        CHECK.due("node(1, 4) in turn 15", x.node(1, 4), 1);
        CHECK.due("vote(1, 2, 3, 0) in turn 15", x.vote(1, 2, 3, 0), VALUE);
        CHECK.due("vote(1, 2, 3, 3) in turn 15", x.vote(1, 2, 3, 3), 0);
        CHECK.due("vote(1, 2, 1, 1) in turn 15", x.vote(1, 2, 1, 1), VALUE);
    }

    /**
     * A forgetful proposer whose value is valid since this very round proposes it with this round, which rule C
     * does not take, though many prevoted it: timer P ends in turn 10.
     */
    private static void proposalOfItsOwnRoundIsNotAnswered() {
        RoundVotes x = new RoundVotes(4, SEED);
        x.behave(1, 4);
        x.turn(3);
        x.cut(0, 1);
        x.cut(1, 2);
        x.cut(2, 1);
        x.cut(3, 1);
        x.turn(7);
        CHECK.due("vote(1, 0, 1, 3)", x.vote(1, 0, 1, 3), 0);
        CHECK.due("vote(1, 0, 0, 1), sent again", x.vote(1, 0, 0, 1), VALUE);
        CHECK.due("vote(1, 0, 1, 1), NIL by timer P", x.vote(1, 0, 1, 1), 0);
        CHECK.due("vote(1, 0, 1, 2), by rule D", x.vote(1, 0, 1, 2), VALUE);
    }

    /**
     * Node 2 gets node 3's prevote, that makes three for the value, in turn 7, when V has made it precommit NIL: the
     * value is valid for it, but not locked. In round 1 it proposes what is valid, with the round since when it is.
     */
    private static void validIsProposedThoughNotLocked() {
        RoundVotes x = new RoundVotes(4, SEED);
        x.turn(1);
        x.behave(0, 5);
        x.cut(3, 1);
        x.cut(1, 3);
        x.turn(8);
        CHECK.due("node(2, 3) in turn 9", x.node(2, 3), 0);
        CHECK.due("node(2, 5) in turn 9", x.node(2, 5), VALUE);
        CHECK.due("node(2, 6) in turn 9", x.node(2, 6), 0);
        x.turn(1);
        CHECK.due("node(2, 1) in turn 10", x.node(2, 1), 1);
        CHECK.due("vote(2, 1, 2, 0) in turn 10", x.vote(2, 1, 2, 0), VALUE);
        CHECK.due("vote(2, 1, 2, 3) in turn 10", x.vote(2, 1, 2, 3), 0);
    }

    public static void main(String[] args) {
        lockOfTheSameRoundGivesWay();
        lockOfALaterRoundStands();
        lockOfTheSameValueIsNoHindrance();
        proposalOfItsOwnRoundIsNotAnswered();
        validIsProposedThoughNotLocked();
        CHECK.finish();
    }
}
