/**
 * THE PROPOSER of HEIGHT h, ROUND r is node (h + r) modulo n, and what it proposes is its OWN VALUE for h, r: for each
 * number of nodes, each height and each round.
 */
public final class ProposerTest {
    private static final Check CHECK = new Check();
    private static final int SEED = 20_261_116;
    private static final int ALL_NIL = 5;
    private static final int ROUNDS = 30;

    /** Honest nodes whose messages all come decide the own value of each height's proposer of round 0. */
    private static void ofEachHeight(int n) {
        RoundVotes x = new RoundVotes(n, SEED);
        x.turn(100);
        x.turn(100);
        for (int height = 1; height <= 40; height++) {
            String at = " of " + n + " nodes";
            int due = Check.own(SEED, height % n, height, 0);
            CHECK.due("decided(0, " + height + ", 0)" + at, x.decided(0, height, 0), due);
            CHECK.due("decided(" + (n - 1) + ", " + height + ", 0)" + at, x.decided(n - 1, height, 0), due);
            CHECK.due("decided(0, " + height + ", 1)" + at, x.decided(0, height, 1), 0);
        }
    }

    private static void toTheLastRound(RoundVotes x) {
        for (int k = 0; k < 30 && x.node(0, 1) < ROUNDS - 1; k++) {
            x.turn(30);
        }
        x.turn(2);
        CHECK.due("node(0, 1), the last round", x.node(0, 1), ROUNDS - 1);
    }

    /** Where all vote NIL, no value is ever valid: each round's proposer proposes its own value for that round. */
    private static void ofEachRound(int n) {
        RoundVotes x = new RoundVotes(n, SEED);
        for (int i = 0; i < n; i++) {
            x.behave(i, ALL_NIL);
        }
        toTheLastRound(x);
        for (int round = 0; round < ROUNDS; round++) {
            int proposer = (1 + round) % n;
            String at = " of " + n + " nodes";
            int due = Check.own(SEED, proposer, 1, round);
            CHECK.due("vote(0, " + round + ", " + proposer + ", 0)" + at, x.vote(0, round, proposer, 0), due);
            CHECK.due("vote(0, " + round + ", " + proposer + ", 3)" + at, x.vote(0, round, proposer, 3), -1);
            for (int other = 0; other < n; other++) {
                if (other != proposer) {
                    CHECK.due("vote(0, " + round + ", " + other + ", 0)" + at, x.vote(0, round, other, 0), RoundVotes.NONE);
                }
            }
        }
    }

    /** In height 2 the rounds go on from another node: round 1 of height 2 is of node 3, of four. */
    private static void ofALaterHeightAndRound() {
        RoundVotes x = new RoundVotes(4, SEED);
        x.turn(3);
        for (int i = 0; i < 4; i++) {
            x.behave(i, ALL_NIL);
        }
        x.turn(8);
        CHECK.due("node(0, 0) in turn 11", x.node(0, 0), 2);
        CHECK.due("node(0, 1) in turn 11", x.node(0, 1), 1);
        CHECK.due("vote(0, 0, 2, 0) in turn 11", x.vote(0, 0, 2, 0), Check.own(SEED, 2, 2, 0));
        CHECK.due("vote(0, 1, 3, 0) in turn 11", x.vote(0, 1, 3, 0), Check.own(SEED, 3, 2, 1));
    }

    public static void main(String[] args) {
        for (int n = 1; n <= 10; n++) {
            ofEachHeight(n);
            ofEachRound(n);
        }
        ofALaterHeightAndRound();
        CHECK.finish();
    }
}
