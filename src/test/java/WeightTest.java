/** Promises 2 and 16: weight and weightOf. */
public final class WeightTest {
    private static final Check CHECK = new Check();

    private static void wrongInputs() {
        RoundVotes x = new RoundVotes(4, 1);
        CHECK.due("weight(-1, 1)", x.weight(-1, 1), RoundVotes.BAD);
        CHECK.due("weight(4, 1)", x.weight(4, 1), RoundVotes.BAD);
        CHECK.due("weight(0, 0)", x.weight(0, 0), RoundVotes.BAD);
        CHECK.due("weight(0, -1)", x.weight(0, -1), RoundVotes.BAD);
        CHECK.due("weight(0, 1000001)", x.weight(0, 1_000_001), RoundVotes.BAD);
        CHECK.due("weightOf(-1, 1) behind BAD calls", x.weightOf(-1, 1), 4);
        CHECK.due("weightOf(-2, 1)", x.weightOf(-2, 1), RoundVotes.BAD);
        CHECK.due("weightOf(4, 1)", x.weightOf(4, 1), RoundVotes.BAD);
        CHECK.due("weightOf(0, 0)", x.weightOf(0, 0), RoundVotes.BAD);
        CHECK.due("weightOf(0, 41)", x.weightOf(0, 41), RoundVotes.BAD);
        CHECK.due("weightOf(-1, 41)", x.weightOf(-1, 41), RoundVotes.BAD);
    }

    private static void aheadOfTheFirstTurn() {
        RoundVotes x = new RoundVotes(10, 1);
        for (int i = 0; i < 10; i++) {
            CHECK.due("weight(" + i + ", 1000000)", x.weight(i, 1_000_000), 1);
        }
        CHECK.due("weightOf(-1, 1)", x.weightOf(-1, 1), 10_000_000);
        CHECK.due("weightOf(-1, 40)", x.weightOf(-1, 40), 10_000_000);
        CHECK.due("count(7)", x.count(7), 10_000_000);
        CHECK.due("weight(3, 2)", x.weight(3, 2), 1);
        CHECK.due("weightOf(3, 1)", x.weightOf(3, 1), 2);
        CHECK.due("weightOf(-1, 1)", x.weightOf(-1, 1), 9_000_002);
    }

    /** Nodes of heavy weights decide as those of light ones do. */
    private static void manyOfGreatWeights() {
        RoundVotes x = new RoundVotes(10, 1);
        for (int i = 0; i < 10; i++) {
            x.weight(i, 1_000_000);
        }
        x.turn(5);
        CHECK.due("decided(0, 1, 3)", x.decided(0, 1, 3), 7_000_000);
    }

    private static void whileTurnsGo() {
        RoundVotes x = new RoundVotes(4, 7);
        x.turn(1);
        CHECK.due("weight(2, 5) in height 1", x.weight(2, 5), 2);
        CHECK.due("weightOf(2, 1)", x.weightOf(2, 1), 1);
        CHECK.due("weightOf(2, 2)", x.weightOf(2, 2), 5);
        CHECK.due("weightOf(-1, 2)", x.weightOf(-1, 2), 8);
        CHECK.due("weightOf(-1, 40)", x.weightOf(-1, 40), 8);
        CHECK.due("count(7) is of height 1", x.count(7), 4);
        x.turn(3);
        CHECK.due("weight(2, 9) in height 2", x.weight(2, 9), 3);
        CHECK.due("weightOf(2, 2)", x.weightOf(2, 2), 5);
        CHECK.due("weightOf(2, 3)", x.weightOf(2, 3), 9);
    }

    /** Behind the last height there is none whose weights could change. */
    private static void behindTheLastHeight() {
        RoundVotes x = new RoundVotes(1, 7);
        x.turn(1);
        CHECK.due("weight(0, 5)", x.weight(0, 5), 42);
        CHECK.due("weightOf(0, 40)", x.weightOf(0, 40), 1);
    }

    /** Exactly two thirds are not many, and one unit more is. */
    private static void edgeOfMany() {
        RoundVotes even = new RoundVotes(3, 7);
        even.behave(0, 1);
        even.turn(30);
        CHECK.due("count(5), 2 of 3", even.count(5), 0);
        RoundVotes more = new RoundVotes(3, 7);
        more.behave(0, 1);
        more.weight(1, 3);
        more.weight(2, 2);
        more.weight(0, 2);
        more.turn(30);
        CHECK.due("decided(1, 1, 3), 5 of 7", more.decided(1, 1, 3), 5);
    }

    private static void firstAndLastWeight() {
        RoundVotes x = new RoundVotes(3, 1);
        CHECK.due("weight(0, 1000000)", x.weight(0, 1_000_000), 1);
        CHECK.due("weightOf(0, 1)", x.weightOf(0, 1), 1_000_000);
        CHECK.due("weight(0, 1000001)", x.weight(0, 1_000_001), RoundVotes.BAD);
        CHECK.due("weightOf(0, 1)", x.weightOf(0, 1), 1_000_000);
        CHECK.due("weight(0, 1)", x.weight(0, 1), 1);
        CHECK.due("weightOf(0, 1)", x.weightOf(0, 1), 1);
        CHECK.due("weight(0, 0)", x.weight(0, 0), RoundVotes.BAD);
        CHECK.due("weightOf(-1, 1)", x.weightOf(-1, 1), 3);
    }

    /** One node that has come to a height is enough, though it is cut then and the others are behind it. */
    private static void heightOfTheOneAhead() {
        RoundVotes x = new RoundVotes(3, 7);
        x.weight(0, 5);
        x.weight(1, 3);
        x.weight(2, 3);
        for (int lost : new int[] {1, 3, 8, 9}) {
            x.disturb(lost, 0, 0);
        }
        x.turn(2);
        CHECK.due("count(5) in turn 2", x.count(5), 0);
        CHECK.due("weight(2, 4), all in height 1", x.weight(2, 4), 2);
        x.turn(1);
        CHECK.due("node(0, 0) in turn 3", x.node(0, 0), 1);
        CHECK.due("node(1, 0) in turn 3", x.node(1, 0), 2);
        CHECK.due("weight(2, 6), node 1 in height 2", x.weight(2, 6), 3);
        x.cut(1, 1);
        CHECK.due("weight(2, 7), node 1 in height 2, cut", x.weight(2, 7), 3);
        CHECK.due("weightOf(2, 1)", x.weightOf(2, 1), 3);
        CHECK.due("weightOf(2, 2)", x.weightOf(2, 2), 4);
        CHECK.due("weightOf(2, 3)", x.weightOf(2, 3), 7);
        CHECK.due("weightOf(2, 40)", x.weightOf(2, 40), 7);
    }

    /** Told in height 1, it counts in height 2: node 0 is needed there, and was not in height 1. */
    private static void countsFromThatHeightOn() {
        RoundVotes x = new RoundVotes(4, 7);
        x.turn(1);
        x.behave(0, 1);
        CHECK.due("weight(0, 100)", x.weight(0, 100), 2);
        x.turn(30);
        CHECK.due("decided(1, 1, 2)", x.decided(1, 1, 2), 14);
        CHECK.due("decided(1, 1, 3)", x.decided(1, 1, 3), 3);
        CHECK.due("decided(1, 2, 0)", x.decided(1, 2, 0), RoundVotes.NONE);
    }

    /**
     * In height 2 all vote NIL, and node 0 is cut through round 0. In turn 11 it hears node 3 of round 1, in turn 12 the
     * others, too. Node 3 is SOME if it weighs 2 of 5 in height 2, though it is not in height 1.
     */
    private static void someOfTheHeight(int weightOfThree, int roundInTurnEleven) {
        RoundVotes x = new RoundVotes(4, 7);
        x.turn(1);
        CHECK.due("weight(3, " + weightOfThree + ")", x.weight(3, weightOfThree), 2);
        x.turn(2);
        for (int i = 0; i < 4; i++) {
            x.behave(i, 5);
        }
        x.turn(1);
        x.cut(0, 5);
        x.turn(7);
        CHECK.due("node(0, 0) in turn 11", x.node(0, 0), 2);
        CHECK.due("vote(0, 1, 3, 1) in turn 11", x.vote(0, 1, 3, 1), 0);
        CHECK.due("vote(0, 1, 1, 1) in turn 11", x.vote(0, 1, 1, 1), RoundVotes.NONE);
        CHECK.due("node(0, 1) in turn 11, of weight " + weightOfThree, x.node(0, 1), roundInTurnEleven);
        x.turn(1);
        CHECK.due("node(0, 1) in turn 12", x.node(0, 1), 1);
    }

    private static void someIsOfTheHeight() {
        someOfTheHeight(2, 1);
        someOfTheHeight(1, 0);
    }

    public static void main(String[] args) {
        firstAndLastWeight();
        heightOfTheOneAhead();
        countsFromThatHeightOn();
        wrongInputs();
        aheadOfTheFirstTurn();
        manyOfGreatWeights();
        whileTurnsGo();
        behindTheLastHeight();
        edgeOfMany();
        someIsOfTheHeight();
        CHECK.finish();
    }
}
