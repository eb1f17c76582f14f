/** Promise 8: catchUp. */
public final class CatchUpTest {
    private static final Check CHECK = new Check();
    private static final int SEED = 7;

    private static void wrongInputs() {
        RoundVotes x = new RoundVotes(4, SEED);
        CHECK.due("catchUp(-1)", x.catchUp(-1), RoundVotes.BAD);
        CHECK.due("catchUp(4)", x.catchUp(4), RoundVotes.BAD);
        CHECK.due("catchUp(0) ahead of the first turn", x.catchUp(0), RoundVotes.NONE);
        x.turn(1);
        CHECK.due("catchUp(0), none has decided", x.catchUp(0), 0);
        CHECK.due("node(0, 9) as before", x.node(0, 9), 5);
        x.cut(0, 1);
        CHECK.due("catchUp(0) when cut", x.catchUp(0), RoundVotes.NONE);
    }

    private static RoundVotes nodeZeroLeftBehind() {
        RoundVotes x = new RoundVotes(4, SEED);
        x.turn(1);
        x.cut(0, 20);
        x.turn(21);
        return x;
    }

    private static void takesWhatOthersDecided() {
        RoundVotes x = nodeZeroLeftBehind();
        int reached = x.node(1, 0);
        CHECK.due("node(0, 0), left behind", x.node(0, 0), 1);
        CHECK.due("others went on", x.count(5) > 2 ? 1 : 0, 1);
        CHECK.due("catchUp(0)", x.catchUp(0), x.count(5));
        CHECK.due("node(0, 0)", x.node(0, 0), x.count(5) + 1);
        CHECK.due("node(0, 1)", x.node(0, 1), 0);
        CHECK.due("node(0, 9)", x.node(0, 9), 26);
        for (int h = 1; h < reached; h++) {
            for (int what = 0; what < 4; what++) {
                CHECK.due("decided(0, " + h + ", " + what + ")", x.decided(0, h, what), x.decided(1, h, what));
            }
            CHECK.due("unlike(" + h + ")", x.unlike(h), 0);
        }
        CHECK.due("catchUp(0) again", x.catchUp(0), 0);
    }

    private static void asksNoneThatIsCut() {
        RoundVotes x = nodeZeroLeftBehind();
        x.cut(1, 5);
        x.cut(2, 5);
        x.cut(3, 5);
        CHECK.due("catchUp(0), all others cut", x.catchUp(0), 0);
        x.turn(6);
        CHECK.due("catchUp(0), all back", x.catchUp(0) > 2 ? 1 : 0, 1);
    }

    /** Nodes 1 and 2 decide of unlike voters, so it shows whose decision is taken. */
    private static void asksTheLeast() {
        RoundVotes x = nodeZeroOneHeightBehind();
        CHECK.due("decided(1, 1, 2)", x.decided(1, 1, 2), 14);
        CHECK.due("decided(2, 1, 2)", x.decided(2, 1, 2), 13);
        CHECK.due("catchUp(0)", x.catchUp(0), 1);
        CHECK.due("decided(0, 1, 2), of node 1", x.decided(0, 1, 2), 14);
        RoundVotes y = nodeZeroOneHeightBehind();
        y.cut(1, 1);
        CHECK.due("catchUp(0), node 1 cut", y.catchUp(0), 1);
        CHECK.due("decided(0, 1, 2), of node 2", y.decided(0, 1, 2), 13);
    }

    private static RoundVotes nodeZeroOneHeightBehind() {
        RoundVotes x = new RoundVotes(4, SEED);
        x.turn(3);
        x.cut(0, 1);
        x.turn(2);
        return x;
    }

    /** Nodes 0 and 1 decide of unlike voters, and node 0 is the least of all. */
    private static void asksNodeZero() {
        RoundVotes x = new RoundVotes(4, SEED);
        x.turn(3);
        x.cut(3, 1);
        x.turn(2);
        CHECK.due("decided(0, 1, 2)", x.decided(0, 1, 2), 13);
        CHECK.due("decided(1, 1, 2)", x.decided(1, 1, 2), 14);
        CHECK.due("catchUp(3)", x.catchUp(3), 1);
        CHECK.due("decided(3, 1, 2), of node 0", x.decided(3, 1, 2), 13);
    }

    private static void proposesWhenItIsTheProposer() {
        RoundVotes x = new RoundVotes(4, SEED);
        x.turn(1);
        x.cut(2, 3);
        x.turn(4);
        int before = x.node(2, 12);
        CHECK.due("catchUp(2)", x.catchUp(2), 1);
        CHECK.due("node(2, 2), it has prevoted", x.node(2, 2), 1);
        CHECK.due("vote(2, 0, 2, 0)", x.vote(2, 0, 2, 0), Check.own(SEED, 2, 2, 0));
        CHECK.due("node(2, 12)", x.node(2, 12), before + 6);
        x.turn(1);
        CHECK.due("vote(0, 0, 2, 0) in the next turn", x.vote(0, 0, 2, 0), Check.own(SEED, 2, 2, 0));
    }

    /** What it keeps for the next height counts once it is there. */
    private static void keptMessagesCount() {
        RoundVotes x = nodeZeroOneHeightBehind();
        CHECK.due("node(0, 0)", x.node(0, 0), 1);
        CHECK.due("catchUp(0)", x.catchUp(0), 1);
        CHECK.due("vote(0, 0, 2, 0)", x.vote(0, 0, 2, 0), Check.own(SEED, 2, 2, 0));
        CHECK.due("vote(0, 0, 0, 1), it has prevoted", x.vote(0, 0, 0, 1), Check.own(SEED, 2, 2, 0));
        CHECK.due("node(0, 3)", x.node(0, 3), 0);
        CHECK.due("node(0, 5)", x.node(0, 5), 0);
    }

    private static void upToTheLastHeight() {
        RoundVotes x = new RoundVotes(4, SEED);
        x.turn(1);
        for (int k = 0; k < 9; k++) {
            x.cut(0, 50);
            x.turn(51);
        }
        CHECK.due("count(5)", x.count(5), 40);
        CHECK.due("node(0, 0)", x.node(0, 0), 1);
        CHECK.due("catchUp(0)", x.catchUp(0), 40);
        int[] due = {41, 0, 0, 0, -1, 0, -1, 0, 0, 0, 0, 0, 0};
        for (int what = 0; what < 12; what++) {
            CHECK.due("node(0, " + what + ")", x.node(0, what), due[what]);
        }
        CHECK.due("catchUp(0) again", x.catchUp(0), 0);
    }

    public static void main(String[] args) {
        wrongInputs();
        takesWhatOthersDecided();
        asksNoneThatIsCut();
        asksTheLeast();
        asksNodeZero();
        proposesWhenItIsTheProposer();
        keptMessagesCount();
        upToTheLastHeight();
        CHECK.finish();
    }
}
