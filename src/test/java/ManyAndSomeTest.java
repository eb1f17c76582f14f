/**
 * Exactly two thirds are not MANY, and exactly one third is not SOME; one unit of weight more is. A test for each rule
 * that asks for them. Node 1 proposes in height 1, round 0, node 2 in round 1.
 */
public final class ManyAndSomeTest {
    private static final Check CHECK = new Check();
    private static final int SEED = 7;
    private static final int VALUE = Check.own(SEED, 1, 1, 0);
    private static final int SILENT = 1, ALL_NIL = 5;
    private static final int HEAVY = 1_000_000;

    private static RoundVotes weighing(int... weights) {
        RoundVotes x = new RoundVotes(weights.length, SEED);
        for (int i = 0; i < weights.length; i++) {
            x.weight(i, weights[i]);
        }
        return x;
    }

    /** Nodes 1 and 2 of three are exactly two thirds. */
    private static RoundVotes twoThirds() {
        return weighing(HEAVY, HEAVY, HEAVY);
    }

    /** Nodes 1 and 2 of three are more than two thirds, by the least that there is. */
    private static RoundVotes aLittleMore() {
        return weighing(HEAVY - 1, HEAVY, HEAVY);
    }

    private static void behaveAll(RoundVotes x, int... behaviours) {
        for (int i = 0; i < behaviours.length; i++) {
            x.behave(i, behaviours[i]);
        }
    }

    /** Node 0 prevotes and is silent then, so precommits come of nodes 1 and 2 alone. */
    private static void rulePrecommitsAlike() {
        RoundVotes exact = twoThirds();
        exact.turn(2);
        exact.behave(0, SILENT);
        exact.turn(30);
        CHECK.due("A, two thirds: vote(1, 0, 1, 2)", exact.vote(1, 0, 1, 2), VALUE);
        CHECK.due("A, two thirds: vote(1, 0, 2, 2)", exact.vote(1, 0, 2, 2), VALUE);
        CHECK.due("A, two thirds: decided(1, 1, 0)", exact.decided(1, 1, 0), RoundVotes.NONE);
        CHECK.due("A, all three: decided(0, 1, 0)", exact.decided(0, 1, 0), VALUE);
        CHECK.due("A, all three: decided(0, 1, 3)", exact.decided(0, 1, 3), 3 * HEAVY);
        RoundVotes more = aLittleMore();
        more.turn(2);
        more.behave(0, SILENT);
        more.turn(1);
        CHECK.due("A, more: decided(1, 1, 0) in turn 3", more.decided(1, 1, 0), VALUE);
        CHECK.due("A, more: decided(1, 1, 2)", more.decided(1, 1, 2), 6);
        CHECK.due("A, more: decided(1, 1, 3)", more.decided(1, 1, 3), 2 * HEAVY);
    }

    /**
     * Node 0 has not got node 3's prevote of round 0; the others lock the value, but node 3 (and node 0) precommit
     * NIL. In round 1 node 2 proposes the value as valid since round 0.
     */
    private static RoundVotes proposedAgain(int... weights) {
        RoundVotes x = weighing(weights);
        x.disturb(12, 0, 0);
        x.turn(2);
        x.behave(0, ALL_NIL);
        x.behave(3, ALL_NIL);
        x.turn(2);
        x.behave(0, 0);
        x.behave(3, 0);
        x.turn(4);
        CHECK.due("C: node(0, 1) in turn 8", x.node(0, 1), 1);
        CHECK.due("C: vote(0, 1, 2, 0) in turn 8", x.vote(0, 1, 2, 0), VALUE);
        CHECK.due("C: vote(0, 1, 2, 3) in turn 8", x.vote(0, 1, 2, 3), 0);
        CHECK.due("C: vote(0, 0, 0, 1)", x.vote(0, 0, 0, 1), VALUE);
        CHECK.due("C: vote(0, 0, 1, 1)", x.vote(0, 0, 1, 1), VALUE);
        CHECK.due("C: vote(0, 0, 2, 1)", x.vote(0, 0, 2, 1), VALUE);
        CHECK.due("C: vote(0, 0, 3, 1)", x.vote(0, 0, 3, 1), RoundVotes.NONE);
        return x;
    }

    private static void rulePrevotesOfAnEarlierRound() {
        RoundVotes exact = proposedAgain(1, 1, 2, 2);
        CHECK.due("C, 4 of 6: node(0, 2)", exact.node(0, 2), 0);
        CHECK.due("C, 4 of 6: vote(0, 1, 0, 1)", exact.vote(0, 1, 0, 1), RoundVotes.NONE);
        for (int i = 1; i < 4; i++) {
            exact.behave(i, ALL_NIL);
        }
        exact.turn(2);
        CHECK.due("C, 4 of 6: node(0, 2) in turn 10", exact.node(0, 2), 0);
        CHECK.due("C, 4 of 6: node(0, 11), G goes where C does not", exact.node(0, 11), 14);
        RoundVotes more = proposedAgain(1, 1, 3, 2);
        CHECK.due("C, 5 of 7: node(0, 2)", more.node(0, 2), 1);
        CHECK.due("C, 5 of 7: vote(0, 1, 0, 1)", more.vote(0, 1, 0, 1), VALUE);
    }

    private static void rulePrevotesAlike() {
        RoundVotes exact = twoThirds();
        exact.behave(0, SILENT);
        exact.turn(20);
        CHECK.due("D, two thirds: vote(2, 0, 1, 1)", exact.vote(2, 0, 1, 1), VALUE);
        CHECK.due("D, two thirds: vote(2, 0, 2, 1)", exact.vote(2, 0, 2, 1), VALUE);
        CHECK.due("D, two thirds: node(2, 2)", exact.node(2, 2), 1);
        CHECK.due("D, two thirds: node(2, 3)", exact.node(2, 3), 0);
        CHECK.due("D, two thirds: node(2, 5)", exact.node(2, 5), 0);
        RoundVotes more = aLittleMore();
        more.behave(0, SILENT);
        more.turn(2);
        CHECK.due("D, more: node(2, 2) in turn 2", more.node(2, 2), 2);
        CHECK.due("D, more: node(2, 3) in turn 2", more.node(2, 3), VALUE);
        CHECK.due("D, more: node(2, 5) in turn 2", more.node(2, 5), VALUE);
    }

    private static void rulePrevotesForNil() {
        RoundVotes exact = twoThirds();
        behaveAll(exact, SILENT, ALL_NIL, ALL_NIL);
        exact.turn(20);
        CHECK.due("E, two thirds: vote(2, 0, 1, 1)", exact.vote(2, 0, 1, 1), 0);
        CHECK.due("E, two thirds: node(2, 2)", exact.node(2, 2), 1);
        CHECK.due("E, two thirds: vote(2, 0, 2, 2)", exact.vote(2, 0, 2, 2), RoundVotes.NONE);
        RoundVotes more = aLittleMore();
        behaveAll(more, SILENT, ALL_NIL, ALL_NIL);
        more.turn(2);
        CHECK.due("E, more: node(2, 2) in turn 2", more.node(2, 2), 2);
        CHECK.due("E, more: vote(2, 0, 2, 2) in turn 2", more.vote(2, 0, 2, 2), 0);
    }

    private static void rulePrevotesWhateverFor() {
        RoundVotes exact = twoThirds();
        behaveAll(exact, SILENT, 0, ALL_NIL);
        for (int turn = 1; turn <= 20; turn++) {
            exact.turn(1);
            CHECK.due("F, two thirds: node(1, 10) in turn " + turn, exact.node(1, 10), 0);
            CHECK.due("F, two thirds: node(2, 10) in turn " + turn, exact.node(2, 10), 0);
        }
        CHECK.due("F, two thirds: vote(1, 0, 2, 1)", exact.vote(1, 0, 2, 1), 0);
        RoundVotes more = aLittleMore();
        behaveAll(more, SILENT, 0, ALL_NIL);
        more.turn(3);
        CHECK.due("F, more: node(2, 10), set in turn 2", more.node(2, 10), 5);
        CHECK.due("F, more: node(1, 10), set in turn 3", more.node(1, 10), 6);
        CHECK.due("F, more: node(1, 2)", more.node(1, 2), 1);
    }

    /** Node 0 prevotes NIL as the others do and is silent then. */
    private static void rulePrecommitsWhateverFor() {
        RoundVotes exact = twoThirds();
        behaveAll(exact, ALL_NIL, ALL_NIL, ALL_NIL);
        exact.turn(2);
        exact.behave(0, SILENT);
        exact.turn(2);
        CHECK.due("G, two thirds: vote(1, 0, 1, 2)", exact.vote(1, 0, 1, 2), 0);
        CHECK.due("G, two thirds: vote(1, 0, 2, 2)", exact.vote(1, 0, 2, 2), 0);
        CHECK.due("G, two thirds: node(1, 11) in turn 4", exact.node(1, 11), 0);
        CHECK.due("G, all three: node(0, 11) in turn 4", exact.node(0, 11), 7);
        RoundVotes more = aLittleMore();
        behaveAll(more, ALL_NIL, ALL_NIL, ALL_NIL);
        more.turn(2);
        more.behave(0, SILENT);
        more.turn(1);
        CHECK.due("G, more: node(1, 11) in turn 3", more.node(1, 11), 6);
    }

    /** Node 3 was cut through round 0; in turn 8 it has messages of round 1 from node 2 alone. */
    private static RoundVotes hearsOneNodeOfRoundOne(int... weights) {
        RoundVotes x = weighing(weights);
        behaveAll(x, ALL_NIL, ALL_NIL, ALL_NIL, ALL_NIL);
        x.turn(1);
        x.cut(3, 5);
        x.turn(7);
        CHECK.due("B: vote(3, 1, 2, 1) in turn 8", x.vote(3, 1, 2, 1), 0);
        CHECK.due("B: vote(3, 1, 0, 1) in turn 8", x.vote(3, 1, 0, 1), RoundVotes.NONE);
        CHECK.due("B: vote(3, 1, 1, 1) in turn 8", x.vote(3, 1, 1, 1), RoundVotes.NONE);
        return x;
    }

    private static void ruleMessagesOfALaterRound() {
        RoundVotes exact = hearsOneNodeOfRoundOne(3, 3, 4, 2);
        CHECK.due("B, 4 of 12: node(3, 1)", exact.node(3, 1), 0);
        RoundVotes more = hearsOneNodeOfRoundOne(3, 2, 4, 2);
        CHECK.due("B, 4 of 11: node(3, 1)", more.node(3, 1), 1);
    }

    /**
     * Node 3 has three prevotes of round 0, but two for the value (copy 8, node 0's to it, is lost, and node 2 votes
     * NIL): that is not MANY for the value that node 2 proposes again in round 1, though it is for the others.
     */
    private static void rulePrevotesOfAnEarlierRoundForTheValue() {
        RoundVotes x = weighing(1, 1, 1, 1);
        x.behave(2, ALL_NIL);
        x.disturb(8, 0, 0);
        x.turn(8);
        CHECK.due("C: vote(3, 1, 2, 0) in turn 8", x.vote(3, 1, 2, 0), VALUE);
        CHECK.due("C: vote(3, 1, 2, 3) in turn 8", x.vote(3, 1, 2, 3), 0);
        CHECK.due("C: vote(3, 0, 1, 1)", x.vote(3, 0, 1, 1), VALUE);
        CHECK.due("C: vote(3, 0, 2, 1)", x.vote(3, 0, 2, 1), 0);
        CHECK.due("C: vote(3, 0, 3, 1)", x.vote(3, 0, 3, 1), VALUE);
        CHECK.due("C, torn: node(3, 2) in turn 8", x.node(3, 2), 0);
        CHECK.due("C, torn: vote(3, 1, 3, 1) in turn 8", x.vote(3, 1, 3, 1), RoundVotes.NONE);
        CHECK.due("C: vote(1, 1, 1, 1) in turn 8", x.vote(1, 1, 1, 1), VALUE);
    }

    public static void main(String[] args) {
        rulePrecommitsAlike();
        rulePrevotesOfAnEarlierRound();
        rulePrevotesAlike();
        rulePrevotesForNil();
        rulePrevotesWhateverFor();
        rulePrecommitsWhateverFor();
        ruleMessagesOfALaterRound();
        rulePrevotesOfAnEarlierRoundForTheValue();
        CHECK.finish();
    }
}
