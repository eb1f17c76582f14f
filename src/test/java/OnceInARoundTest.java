/** Rules D, F and G go once in a ROUND, and once more in the next one or when the ROUND begins again. */
public final class OnceInARoundTest {
    private static final Check CHECK = new Check();
    private static final int SEED = 7;
    private static final int VALUE = Check.own(SEED, 1, 1, 0);
    private static final int LATE = 2;
    private static final int ALL_NIL = 5;

    private static RoundVotes fourNodes(int... behaviours) {
        RoundVotes x = new RoundVotes(4, SEED);
        for (int i = 0; i < 4; i++) {
            x.behave(i, behaviours[i]);
        }
        return x;
    }

    /** Prevotes are torn, two against two; that of node 3 comes to node 1 a turn behind the others (copy 13). */
    private static void timerVIsSetOnce() {
        RoundVotes x = fourNodes(ALL_NIL, 0, 0, ALL_NIL);
        x.disturb(13, LATE, 1);
        x.turn(3);
        CHECK.due("F: node(1, 10) in turn 3", x.node(1, 10), 6);
        CHECK.due("F: vote(1, 0, 3, 1) in turn 3", x.vote(1, 0, 3, 1), RoundVotes.NONE);
        x.turn(1);
        CHECK.due("F: vote(1, 0, 3, 1) in turn 4", x.vote(1, 0, 3, 1), 0);
        CHECK.due("F: node(1, 10) in turn 4", x.node(1, 10), 6);
        x.turn(1);
        CHECK.due("F: node(1, 2) in turn 5", x.node(1, 2), 1);
        x.turn(1);
        CHECK.due("F: node(1, 2) in turn 6", x.node(1, 2), 2);
        CHECK.due("F: node(1, 10) in turn 6", x.node(1, 10), 0);
    }

    /** Round 1 begins in turn 10; node 2 proposes in it and gets the third prevote in turn 12. */
    private static void timerVIsSetAnewInTheNextRound() {
        RoundVotes x = fourNodes(ALL_NIL, 0, 0, ALL_NIL);
        x.turn(10);
        CHECK.due("F: node(2, 1) in turn 10", x.node(2, 1), 1);
        CHECK.due("F: node(2, 10) in turn 10", x.node(2, 10), 0);
        x.turn(2);
        CHECK.due("F: node(2, 10) in turn 12", x.node(2, 10), 16);
    }

    /** All vote NIL and precommit in turn 3; node 2's precommit comes to node 0 a turn behind the others. */
    private static void timerCIsSetOnce() {
        RoundVotes x = fourNodes(ALL_NIL, ALL_NIL, ALL_NIL, ALL_NIL);
        x.turn(2);
        // Turn 3: node 2 is the first to have three prevotes, by copy 7, and precommits (copies 15 to 17).
        x.disturb(15, LATE, 1);
        x.turn(2);
        CHECK.due("G: vote(0, 0, 2, 2) in turn 4", x.vote(0, 0, 2, 2), RoundVotes.NONE);
        CHECK.due("G: node(0, 11) in turn 4", x.node(0, 11), 7);
        x.turn(1);
        CHECK.due("G: vote(0, 0, 2, 2) in turn 5", x.vote(0, 0, 2, 2), 0);
        CHECK.due("G: node(0, 11) in turn 5", x.node(0, 11), 7);
    }

    private static void timerCIsSetAnewInTheNextRound() {
        RoundVotes x = fourNodes(ALL_NIL, ALL_NIL, ALL_NIL, ALL_NIL);
        x.turn(7);
        CHECK.due("G: node(0, 1) in turn 7", x.node(0, 1), 1);
        CHECK.due("G: node(0, 11) in turn 7", x.node(0, 11), 0);
        x.turn(3);
        CHECK.due("G: node(0, 11) in turn 10", x.node(0, 11), 14);
    }

    /**
     * Node 2's prevote comes to node 0 in turn 7 (copy 9), when V has made it precommit NIL: VALID is set, LOCKED not.
     * It ends the torn round for node 0: in the same turn C ends, so D has let other rules and timers go on.
     */
    private static void inStepPrecommitValidAlone() {
        RoundVotes x = fourNodes(0, 0, 0, ALL_NIL);
        x.disturb(9, LATE, 4);
        x.turn(6);
        CHECK.due("D: node(0, 2) in turn 6", x.node(0, 2), 2);
        CHECK.due("D: vote(0, 0, 0, 2) in turn 6", x.vote(0, 0, 0, 2), 0);
        CHECK.due("D: node(0, 5) in turn 6", x.node(0, 5), 0);
        x.turn(1);
        CHECK.due("D: node(0, 5) in turn 7", x.node(0, 5), VALUE);
        CHECK.due("D: node(0, 6) in turn 7", x.node(0, 6), 0);
        CHECK.due("D: node(0, 3) in turn 7", x.node(0, 3), 0);
        CHECK.due("D: node(0, 4) in turn 7", x.node(0, 4), -1);
        CHECK.due("D: vote(0, 0, 0, 2) in turn 7", x.vote(0, 0, 0, 2), 0);
        CHECK.due("D: node(0, 1) in turn 7", x.node(0, 1), 1);
    }

    /** Node 1 locks in turn 3; its rule G goes behind that, and D goes in round 1 again. */
    private static void lockIsTakenOnceAndAnewInTheNextRound() {
        RoundVotes x = fourNodes(0, 0, 0, 0);
        x.turn(2);
        x.behave(0, ALL_NIL);
        x.behave(3, ALL_NIL);
        x.turn(1);
        CHECK.due("D: node(1, 4) in turn 3", x.node(1, 4), 0);
        CHECK.due("D: node(1, 12) in turn 3", x.node(1, 12), 9);
        x.turn(1);
        CHECK.due("D: node(1, 11) in turn 4, by G", x.node(1, 11), 7);
        CHECK.due("D: node(1, 12) in turn 4", x.node(1, 12), 9);
        x.behave(0, 0);
        x.behave(3, 0);
        x.turn(5);
        CHECK.due("D: node(1, 3) in turn 9", x.node(1, 3), VALUE);
        CHECK.due("D: node(1, 4) in turn 9", x.node(1, 4), 1);
        CHECK.due("D: node(1, 6) in turn 9", x.node(1, 6), 1);
    }

    /** All NIL; node 0 has set C in turn 4, is cut, comes back in turn 6, and the others, cut too, send again. */
    private static void anewWhenTheRoundBeginsAgain() {
        RoundVotes x = fourNodes(ALL_NIL, ALL_NIL, ALL_NIL, ALL_NIL);
        x.turn(4);
        CHECK.due("G: node(0, 11) in turn 4", x.node(0, 11), 7);
        for (int i = 0; i < 4; i++) {
            x.cut(i, 1);
        }
        x.turn(2);
        CHECK.due("G: node(0, 11) in turn 6, back", x.node(0, 11), 0);
        CHECK.due("G: vote(0, 0, 0, 2) in turn 6, signed", x.vote(0, 0, 0, 2), 0);
        CHECK.due("G: vote(0, 0, 2, 2) in turn 6, forgotten", x.vote(0, 0, 2, 2), RoundVotes.NONE);
        x.turn(3);
        CHECK.due("G: node(0, 11) in turn 9, set anew", x.node(0, 11), 12);
    }

    public static void main(String[] args) {
        timerVIsSetOnce();
        timerVIsSetAnewInTheNextRound();
        timerCIsSetOnce();
        timerCIsSetAnewInTheNextRound();
        inStepPrecommitValidAlone();
        lockIsTakenOnceAndAnewInTheNextRound();
        anewWhenTheRoundBeginsAgain();
        CHECK.finish();
    }
}
