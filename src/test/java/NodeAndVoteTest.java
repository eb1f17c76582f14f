/** Promises 9 and 10: node and vote. */
public final class NodeAndVoteTest {
    private static final Check CHECK = new Check();
    private static final int SEED = 7;
    private static final int VALUE = Check.own(SEED, 1, 1, 0);

    private static void nodeIs(RoundVotes x, int i, int... due) {
        for (int what = 0; what < due.length; what++) {
            CHECK.due("node(" + i + ", " + what + ") at " + x.count(0), x.node(i, what), due[what]);
        }
    }

    private static void wrongInputs(RoundVotes x) {
        CHECK.due("node(-1, 0)", x.node(-1, 0), RoundVotes.BAD);
        CHECK.due("node(4, 0)", x.node(4, 0), RoundVotes.BAD);
        CHECK.due("node(0, -1)", x.node(0, -1), RoundVotes.BAD);
        CHECK.due("node(0, 13)", x.node(0, 13), RoundVotes.BAD);
        CHECK.due("vote(-1, 0, 0, 0)", x.vote(-1, 0, 0, 0), RoundVotes.BAD);
        CHECK.due("vote(4, 0, 0, 0)", x.vote(4, 0, 0, 0), RoundVotes.BAD);
        CHECK.due("vote(0, -1, 0, 0)", x.vote(0, -1, 0, 0), RoundVotes.BAD);
        CHECK.due("vote(0, 30, 0, 0)", x.vote(0, 30, 0, 0), RoundVotes.BAD);
        CHECK.due("vote(0, 0, -1, 0)", x.vote(0, 0, -1, 0), RoundVotes.BAD);
        CHECK.due("vote(0, 0, 4, 0)", x.vote(0, 0, 4, 0), RoundVotes.BAD);
        CHECK.due("vote(0, 0, 0, -1)", x.vote(0, 0, 0, -1), RoundVotes.BAD);
        CHECK.due("vote(0, 0, 0, 4)", x.vote(0, 0, 0, 4), RoundVotes.BAD);
    }

    private static void aheadOfTheFirstTurn() {
        RoundVotes x = new RoundVotes(4, SEED);
        wrongInputs(x);
        for (int i = 0; i < 4; i++) {
            nodeIs(x, i, 1, 0, 0, 0, -1, 0, -1, 0, 0, 0, 0, 0, 0);
            CHECK.due("vote(" + i + ", 0, 1, 0)", x.vote(i, 0, 1, 0), RoundVotes.NONE);
            CHECK.due("vote(" + i + ", 29, 3, 2)", x.vote(i, 29, 3, 2), RoundVotes.NONE);
            CHECK.due("vote(" + i + ", 0, 1, 3)", x.vote(i, 0, 1, 3), -9);
        }
    }

    private static void turnByTurn() {
        RoundVotes x = new RoundVotes(4, SEED);
        x.turn(1);
        wrongInputs(x);
        nodeIs(x, 0, 1, 0, 0, 0, -1, 0, -1, 0, 0, 5, 0, 0, 0);
        nodeIs(x, 1, 1, 0, 1, 0, -1, 0, -1, 0, 0, 5, 0, 0, 6);
        CHECK.due("vote(1, 0, 1, 0)", x.vote(1, 0, 1, 0), VALUE);
        CHECK.due("vote(1, 0, 1, 3)", x.vote(1, 0, 1, 3), -1);
        CHECK.due("vote(1, 0, 1, 1)", x.vote(1, 0, 1, 1), VALUE);
        CHECK.due("vote(1, 0, 1, 2)", x.vote(1, 0, 1, 2), RoundVotes.NONE);
        CHECK.due("vote(0, 0, 1, 0), not come yet", x.vote(0, 0, 1, 0), RoundVotes.NONE);
        x.turn(1);
        nodeIs(x, 0, 1, 0, 1, 0, -1, 0, -1, 0, 0, 5, 0, 0, 3);
        CHECK.due("vote(0, 0, 1, 0)", x.vote(0, 0, 1, 0), VALUE);
        CHECK.due("vote(0, 0, 1, 3)", x.vote(0, 0, 1, 3), -1);
        CHECK.due("vote(0, 0, 2, 3), not the proposer", x.vote(0, 0, 2, 3), -9);
        CHECK.due("vote(0, 1, 1, 3), another round", x.vote(0, 1, 1, 3), -9);
        x.turn(1);
        nodeIs(x, 0, 1, 0, 2, VALUE, 0, VALUE, 0, 0, 0, 5, 0, 0, 6);
        CHECK.due("vote(0, 0, 0, 2)", x.vote(0, 0, 0, 2), VALUE);
        x.turn(1);
        nodeIs(x, 0, 2, 0, 0, 0, -1, 0, -1, 0, 0, 8, 0, 0, 6);
        CHECK.due("vote(0, 0, 1, 0), height 2", x.vote(0, 0, 1, 0), RoundVotes.NONE);
    }

    private static void behindTheLastHeight() {
        RoundVotes x = new RoundVotes(1, SEED);
        x.turn(1);
        nodeIs(x, 0, 41, 0, 0, 0, -1, 0, -1, 0, 0, 0, 0, 0, 0);
        CHECK.due("vote(0, 0, 0, 0)", x.vote(0, 0, 0, 0), RoundVotes.NONE);
        CHECK.due("vote(0, 0, 0, 3)", x.vote(0, 0, 0, 3), -9);
    }

    public static void main(String[] args) {
        aheadOfTheFirstTurn();
        turnByTurn();
        behindTheLastHeight();
        CHECK.finish();
    }
}
