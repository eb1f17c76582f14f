/** Promise 6: cut, and how a node comes back. */
public final class CutTest {
    private static final Check CHECK = new Check();
    private static final int SEED = 7;
    private static final int VALUE = Check.own(SEED, 1, 1, 0);

    private static void wrongInputs() {
        RoundVotes x = new RoundVotes(4, SEED);
        CHECK.due("cut(0, 1) ahead of the first turn", x.cut(0, 1), RoundVotes.NONE);
        CHECK.due("cut(0, 0) ahead of the first turn", x.cut(0, 0), RoundVotes.BAD);
        x.turn(1);
        CHECK.due("cut(-1, 1)", x.cut(-1, 1), RoundVotes.BAD);
        CHECK.due("cut(4, 1)", x.cut(4, 1), RoundVotes.BAD);
        CHECK.due("cut(0, 0)", x.cut(0, 0), RoundVotes.BAD);
        CHECK.due("cut(0, -1)", x.cut(0, -1), RoundVotes.BAD);
        CHECK.due("cut(0, 51)", x.cut(0, 51), RoundVotes.BAD);
        CHECK.due("cut(0, 50)", x.cut(0, 50), 1);
        CHECK.due("node(0, 7)", x.node(0, 7), 50);
        CHECK.due("cut(0, 51) while cut", x.cut(0, 51), RoundVotes.BAD);
        CHECK.due("cut(0, 1) while cut", x.cut(0, 1), RoundVotes.NONE);
        CHECK.due("catchUp(0) while cut", x.catchUp(0), RoundVotes.NONE);
        x.turn(49);
        CHECK.due("node(0, 7) in turn 50", x.node(0, 7), 1);
        x.turn(1);
        CHECK.due("node(0, 7) in turn 51", x.node(0, 7), 0);
        CHECK.due("cut(0, 1), it comes back with the next turn", x.cut(0, 1), RoundVotes.NONE);
        CHECK.due("catchUp(0), it comes back with the next turn", x.catchUp(0), RoundVotes.NONE);
        x.turn(1);
        CHECK.due("cut(0, 1) in turn 52", x.cut(0, 1), 1);
    }

    /** In turn 3 node 0 locks; the others' precommits come in turn 4, when it is cut. */
    private static void keepsWhatItSigned() {
        RoundVotes x = new RoundVotes(4, SEED);
        x.turn(3);
        x.cut(0, 1);
        CHECK.due("vote(0, 0, 1, 1) when cut", x.vote(0, 0, 1, 1), VALUE);
        x.turn(1);
        CHECK.due("count(3)", x.count(3), 3);
        CHECK.due("node(0, 0) when cut", x.node(0, 0), 1);
        CHECK.due("node(0, 2) when cut", x.node(0, 2), 2);
        x.turn(1);
        int[] due = {1, 0, 0, VALUE, 0, VALUE, 0, 0, 0, 9, 0, 0, 6};
        for (int what = 0; what < due.length; what++) {
            CHECK.due("node(0, " + what + ") back", x.node(0, what), due[what]);
        }
        CHECK.due("vote(0, 0, 1, 0)", x.vote(0, 0, 1, 0), RoundVotes.NONE);
        CHECK.due("vote(0, 0, 1, 1)", x.vote(0, 0, 1, 1), RoundVotes.NONE);
        CHECK.due("vote(0, 0, 0, 1)", x.vote(0, 0, 0, 1), VALUE);
        CHECK.due("vote(0, 0, 0, 2)", x.vote(0, 0, 0, 2), VALUE);
        x.turn(4);
        CHECK.due("node(0, 2), P has ended", x.node(0, 2), 1);
        CHECK.due("vote(0, 0, 0, 1), the one it signed", x.vote(0, 0, 0, 1), VALUE);
        CHECK.due("node(0, 12), sent again", x.node(0, 12), 9);
        CHECK.due("against(0)", x.against(0), 0);
    }

    /** The proposer sends the same proposal and prevote again as it comes back; for others they are no news. */
    private static void sendsItsProposalAgain() {
        RoundVotes x = new RoundVotes(4, SEED);
        x.behave(2, 1);
        x.behave(3, 1);
        x.turn(1);
        x.cut(1, 1);
        x.turn(2);
        CHECK.due("node(1, 12)", x.node(1, 12), 12);
        CHECK.due("vote(1, 0, 1, 0)", x.vote(1, 0, 1, 0), VALUE);
        CHECK.due("node(1, 9)", x.node(1, 9), 7);
        x.turn(1);
        CHECK.due("evidence(-1, 0)", x.evidence(-1, 0), 0);
        CHECK.due("against(1)", x.against(1), 0);
    }

    /** Node 3 takes no part while it is cut: its timer P, that would end in turn 5, does nothing. */
    private static void doesNothingWhenCut() {
        RoundVotes x = new RoundVotes(4, SEED);
        x.behave(1, 1);
        x.turn(2);
        x.cut(3, 4);
        x.turn(4);
        CHECK.due("node(3, 2) in turn 6", x.node(3, 2), 0);
        CHECK.due("node(3, 12) in turn 6", x.node(3, 12), 0);
        x.turn(1);
        CHECK.due("node(3, 9) in turn 7", x.node(3, 9), 11);
        x.turn(4);
        CHECK.due("vote(3, 0, 3, 1) in turn 11", x.vote(3, 0, 3, 1), 0);
    }

    private static void comesBackBehindTheLastHeight() {
        RoundVotes x = new RoundVotes(1, SEED);
        x.turn(1);
        CHECK.due("cut(0, 1)", x.cut(0, 1), 1);
        x.turn(5);
        CHECK.due("node(0, 0)", x.node(0, 0), 41);
        CHECK.due("node(0, 9)", x.node(0, 9), 0);
    }

    public static void main(String[] args) {
        wrongInputs();
        keepsWhatItSigned();
        sendsItsProposalAgain();
        doesNothingWhenCut();
        comesBackBehindTheLastHeight();
        CHECK.finish();
    }
}
