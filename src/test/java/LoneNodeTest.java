/** One node, the fewest: it is MANY and SOME by itself, THE PROPOSER always, and has nobody to send to. */
public final class LoneNodeTest {
    private static final Check CHECK = new Check();
    private static final int SEED = 7;
    private static final int ALL_NIL = 5;

    private static void sendsNothing(RoundVotes x, int behaviour) {
        String of = "behaviour " + behaviour + ": ";
        CHECK.due(of + "count(1)", x.count(1), 0);
        CHECK.due(of + "count(4)", x.count(4), 0);
        CHECK.due(of + "node(0, 12)", x.node(0, 12), 0);
        CHECK.due(of + "against(0)", x.against(0), 0);
        CHECK.due(of + "evidence(-1, 0)", x.evidence(-1, 0), 0);
    }

    private static void decidesAllInOneTurn() {
        for (int behaviour = 0; behaviour < ALL_NIL; behaviour++) {
            RoundVotes x = new RoundVotes(1, SEED);
            x.weight(0, 1_000_000);
            x.behave(0, behaviour);
            x.turn(1);
            String of = "behaviour " + behaviour + ": ";
            CHECK.due(of + "node(0, 0)", x.node(0, 0), 41);
            for (int height = 1; height <= 40; height++) {
                CHECK.due(of + "decided(0, " + height + ", 0)", x.decided(0, height, 0), Check.own(SEED, 0, height, 0));
                CHECK.due(of + "decided(0, " + height + ", 1)", x.decided(0, height, 1), 0);
                CHECK.due(of + "decided(0, " + height + ", 2)", x.decided(0, height, 2), 1);
                CHECK.due(of + "decided(0, " + height + ", 3)", x.decided(0, height, 3), 1_000_000);
            }
            sendsNothing(x, behaviour);
        }
    }

    /** Round r + 1 begins 3 + r turns behind round r, so round 29 in turn 494; its timer C ends in turn 526. */
    private static void votesNilToTheLastRound() {
        RoundVotes x = new RoundVotes(1, SEED);
        x.behave(0, ALL_NIL);
        x.turn(1);
        CHECK.due("nil: node(0, 2) in turn 1", x.node(0, 2), 2);
        CHECK.due("nil: node(0, 11) in turn 1", x.node(0, 11), 4);
        x.turn(3);
        CHECK.due("nil: node(0, 1) in turn 4", x.node(0, 1), 1);
        CHECK.due("nil: node(0, 11) in turn 4", x.node(0, 11), 8);
        for (int k = 0; k < 4; k++) {
            x.turn(100);
        }
        x.turn(89);
        CHECK.due("nil: node(0, 1) in turn 493", x.node(0, 1), 28);
        x.turn(1);
        CHECK.due("nil: node(0, 1) in turn 494", x.node(0, 1), 29);
        CHECK.due("nil: node(0, 11) in turn 494", x.node(0, 11), 526);
        x.turn(32);
        CHECK.due("nil: node(0, 1) in turn 526", x.node(0, 1), 29);
        CHECK.due("nil: node(0, 11) in turn 526", x.node(0, 11), 0);
        CHECK.due("nil: count(5)", x.count(5), 0);
        sendsNothing(x, ALL_NIL);
    }

    private static void hasNobodyToAsk() {
        RoundVotes x = new RoundVotes(1, SEED);
        x.behave(0, ALL_NIL);
        x.turn(1);
        CHECK.due("catchUp(0)", x.catchUp(0), 0);
        CHECK.due("sides(1, 1)", x.sides(1, 1), 1);
        CHECK.due("cut(0, 1)", x.cut(0, 1), 1);
        x.turn(2);
        CHECK.due("node(0, 2), back", x.node(0, 2), 2);
        CHECK.due("node(0, 9), back", x.node(0, 9), 7);
        CHECK.due("node(0, 11), back", x.node(0, 11), 6);
    }

    public static void main(String[] args) {
        decidesAllInOneTurn();
        votesNilToTheLastRound();
        hasNobodyToAsk();
        CHECK.finish();
    }
}
