/** HEIGHTS are 1 .. 40, in 41 a node stands still for good; and what is of other HEIGHTS than its own and the next one. */
public final class HeightEdgeTest {
    private static final Check CHECK = new Check();
    private static final int SEED = 7;
    private static final int BOTH = 3, LATE = 2;

    /** Four nodes, turned till some node has decided this height. */
    private static RoundVotes decidedUpTo(int height) {
        RoundVotes x = new RoundVotes(4, SEED);
        for (int k = 0; k < 200 && x.count(5) < height; k++) {
            x.turn(1);
        }
        CHECK.due("count(5)", x.count(5), height);
        return x;
    }

    private static void standsStill(RoundVotes x, int i) {
        int[] due = {41, 0, 0, 0, -1, 0, -1};
        for (int what = 0; what < due.length; what++) {
            CHECK.due("node(" + i + ", " + what + ") in height 41", x.node(i, what), due[what]);
        }
        for (int timer = 9; timer <= 11; timer++) {
            CHECK.due("node(" + i + ", " + timer + ") in height 41", x.node(i, timer), 0);
        }
        for (int sender = 0; sender < x.count(6); sender++) {
            for (int kind = 0; kind < 3; kind++) {
                CHECK.due("vote(" + i + ", 0, ..) in height 41", x.vote(i, 0, sender, kind), RoundVotes.NONE);
            }
            CHECK.due("vote(" + i + ", 0, .., 3) in height 41", x.vote(i, 0, sender, 3), -9);
        }
    }

    /** Height 40 is proposed, voted and decided as others are. */
    private static void heightFortyIsDecided() {
        RoundVotes x = decidedUpTo(39);
        x.turn(20);
        CHECK.due("count(5)", x.count(5), 40);
        for (int i = 0; i < 4; i++) {
            CHECK.due("decided(" + i + ", 40, 0)", x.decided(i, 40, 0), Check.own(SEED, 0, 40, 0));
            CHECK.due("decided(" + i + ", 40, 1)", x.decided(i, 40, 1), 0);
            CHECK.due("decided(" + i + ", 40, 3)", x.decided(i, 40, 3), 3);
            CHECK.due("decided(" + i + ", 41, 0)", x.decided(i, 41, 0), RoundVotes.BAD);
            standsStill(x, i);
        }
        CHECK.due("unlike(40)", x.unlike(40), 0);
        CHECK.due("unlike(41)", x.unlike(41), RoundVotes.BAD);
    }

    /** Neither turns, nor a cut, nor catchUp, nor behaviours make a node of height 41 send or begin anything. */
    private static void heightFortyOneForGood() {
        RoundVotes x = decidedUpTo(40);
        x.turn(10);
        int gone = x.count(1);
        for (int i = 0; i < 4; i++) {
            x.behave(i, i + 2);
            CHECK.due("catchUp(" + i + ") in height 41", x.catchUp(i), 0);
            CHECK.due("cut(" + i + ", 1) in height 41", x.cut(i, 1), 1);
        }
        x.turn(100);
        x.turn(100);
        for (int i = 0; i < 4; i++) {
            CHECK.due("node(" + i + ", 7) in height 41", x.node(i, 7), 0);
            standsStill(x, i);
        }
        CHECK.due("count(1), none more has gone", x.count(1), gone);
        CHECK.due("count(4)", x.count(4), 0);
        CHECK.due("count(5)", x.count(5), 40);
    }

    /** Node 0 is cut when it comes to height 40, and the others decide that; then it takes it from them. */
    private static void catchesUpToHeightFortyOne() {
        RoundVotes x = decidedUpTo(39);
        for (int k = 0; k < 10 && x.node(0, 0) < 40; k++) {
            x.turn(1);
        }
        x.cut(0, 20);
        x.turn(21);
        CHECK.due("node(0, 0), left behind", x.node(0, 0), 40);
        CHECK.due("node(1, 0)", x.node(1, 0), 41);
        CHECK.due("decided(0, 40, 0)", x.decided(0, 40, 0), RoundVotes.NONE);
        CHECK.due("catchUp(0)", x.catchUp(0), 1);
        CHECK.due("decided(0, 40, 0), as there", x.decided(0, 40, 0), x.decided(1, 40, 0));
        standsStill(x, 0);
        CHECK.due("catchUp(0) again", x.catchUp(0), 0);
    }

    /** The least height that no node has come to: 40 is the last that counts. */
    private static void weightOfTheLastHeight() {
        RoundVotes inside = decidedUpTo(38);
        CHECK.due("weight(0, 7), some node in 39", inside.weight(0, 7), 40);
        CHECK.due("weightOf(0, 39)", inside.weightOf(0, 39), 1);
        CHECK.due("weightOf(0, 40)", inside.weightOf(0, 40), 7);
        CHECK.due("weightOf(-1, 40)", inside.weightOf(-1, 40), 10);
        RoundVotes outside = decidedUpTo(39);
        CHECK.due("weight(0, 7), some node in 40", outside.weight(0, 7), 41);
        CHECK.due("weightOf(0, 40), it counts for none", outside.weightOf(0, 40), 1);
        CHECK.due("weightOf(-1, 40), it counts for none", outside.weightOf(-1, 40), 4);
        CHECK.due("weightOf(0, 41)", outside.weightOf(0, 41), RoundVotes.BAD);
        RoundVotes behind = decidedUpTo(40);
        CHECK.due("weight(0, 7), some node in 41", behind.weight(0, 7), 42);
        CHECK.due("weightOf(0, 40), it counts for none", behind.weightOf(0, 40), 1);
    }

    /** Node 0 is cut from turn 2 on; the others begin height 2 in turn 4 and height 3 in turn 7. */
    private static RoundVotes nodeZeroBackInTurn(int turn) {
        RoundVotes x = new RoundVotes(4, SEED);
        x.turn(1);
        x.cut(0, turn - 2);
        x.turn(turn - 2);
        int lost = x.count(3);
        x.turn(1);
        CHECK.due("count(3) in turn " + turn + ", none more is lost", x.count(3), lost);
        CHECK.due("node(0, 0) in turn " + turn, x.node(0, 0), 1);
        return x;
    }

    private static void nextHeightIsKept() {
        RoundVotes x = nodeZeroBackInTurn(5);
        CHECK.due("node(1, 0) in turn 5", x.node(1, 0), 2);
        CHECK.due("vote(0, 0, 2, 0), not for its height", x.vote(0, 0, 2, 0), RoundVotes.NONE);
        CHECK.due("catchUp(0)", x.catchUp(0), 1);
        CHECK.due("vote(0, 0, 2, 0), kept", x.vote(0, 0, 2, 0), Check.own(SEED, 2, 2, 0));
        CHECK.due("vote(0, 0, 2, 3), kept", x.vote(0, 0, 2, 3), -1);
        CHECK.due("vote(0, 0, 2, 1), kept", x.vote(0, 0, 2, 1), Check.own(SEED, 2, 2, 0));
    }

    /** The same in height 2: node 0 is cut in turns 5 and 6, and the others begin height 3 in turn 7. */
    private static void nextHeightIsKeptApart() {
        RoundVotes x = new RoundVotes(4, SEED);
        int value = Check.own(SEED, 2, 2, 0);
        x.turn(4);
        x.cut(0, 2);
        x.turn(4);
        CHECK.due("node(0, 0) in turn 8", x.node(0, 0), 2);
        CHECK.due("vote(0, 0, 3, 2) in turn 8, of height 2", x.vote(0, 0, 3, 2), value);
        CHECK.due("vote(0, 0, 3, 0) in turn 8, not for its height", x.vote(0, 0, 3, 0), RoundVotes.NONE);
        CHECK.due("vote(0, 0, 3, 1) in turn 8, not for its height", x.vote(0, 0, 3, 1), RoundVotes.NONE);
        CHECK.due("catchUp(0)", x.catchUp(0), 1);
        CHECK.due("vote(0, 0, 3, 0), kept", x.vote(0, 0, 3, 0), Check.own(SEED, 3, 3, 0));
        CHECK.due("vote(0, 0, 3, 1), kept", x.vote(0, 0, 3, 1), Check.own(SEED, 3, 3, 0));
        CHECK.due("vote(0, 0, 3, 2), of height 2, no more", x.vote(0, 0, 3, 2), RoundVotes.NONE);
    }

    private static void nextButOneIsPassedOver() {
        RoundVotes x = nodeZeroBackInTurn(8);
        CHECK.due("node(1, 0) in turn 8", x.node(1, 0), 3);
        CHECK.due("vote(1, 0, 3, 0) in turn 8", x.vote(1, 0, 3, 0), Check.own(SEED, 3, 3, 0));
        CHECK.due("catchUp(0)", x.catchUp(0), 2);
        CHECK.due("vote(0, 0, 3, 0), passed over", x.vote(0, 0, 3, 0), RoundVotes.NONE);
        CHECK.due("vote(0, 0, 3, 3), passed over", x.vote(0, 0, 3, 3), -9);
        CHECK.due("vote(0, 0, 3, 1), passed over", x.vote(0, 0, 3, 1), RoundVotes.NONE);
    }

    /**
     * Node 2 proposes two values in height 2. Node 0, in height 1 or 2, sees that; node 0 is the least of those to whom
     * they come, so it is the first to see them.
     */
    private static void unlikeOnesOfTheNextHeightAreEvidence() {
        RoundVotes x = new RoundVotes(4, SEED);
        x.turn(1);
        x.cut(0, 3);
        x.turn(2);
        x.behave(2, BOTH);
        x.turn(2);
        CHECK.due("node(0, 0) in turn 5", x.node(0, 0), 1);
        CHECK.due("evidence(-1, 0) in turn 5", x.evidence(-1, 0), 2);
        int[] due = {2, 2, 0, 0, 0, 5};
        for (int what = 0; what < due.length; what++) {
            CHECK.due("evidence(0, " + what + ")", x.evidence(0, what), due[what]);
        }
    }

    /** Node 3 proposes two values in height 3: they come to node 0, in height 1, too, but node 1 is the first to see that. */
    private static void unlikeOnesOfTheNextButOneAreNone() {
        RoundVotes x = new RoundVotes(4, SEED);
        x.turn(1);
        x.cut(0, 6);
        x.turn(5);
        x.behave(3, BOTH);
        x.turn(2);
        CHECK.due("node(0, 0) in turn 8", x.node(0, 0), 1);
        CHECK.due("evidence(0, 0)", x.evidence(0, 0), 3);
        CHECK.due("evidence(0, 1)", x.evidence(0, 1), 3);
        CHECK.due("evidence(0, 4)", x.evidence(0, 4), 1);
        CHECK.due("evidence(0, 5)", x.evidence(0, 5), 8);
    }

    /** Node 3's prevote of height 1 comes to node 0 in turn 5 (copy 12), when that is in height 2. */
    private static void heightBehindIsPassedOver() {
        RoundVotes x = new RoundVotes(4, SEED);
        x.disturb(12, LATE, 2);
        x.turn(4);
        CHECK.due("node(0, 0) in turn 4", x.node(0, 0), 2);
        int came = x.count(2);
        int underWay = x.count(4);
        x.turn(1);
        CHECK.due("count(2) in turn 5, all came", x.count(2), came + underWay);
        CHECK.due("vote(0, 0, 3, 1) in turn 5", x.vote(0, 0, 3, 1), RoundVotes.NONE);
        x.turn(1);
        CHECK.due("vote(0, 0, 3, 1) in turn 6", x.vote(0, 0, 3, 1), Check.own(SEED, 2, 2, 0));
        CHECK.due("evidence(-1, 0)", x.evidence(-1, 0), 0);
    }

    public static void main(String[] args) {
        heightFortyIsDecided();
        heightFortyOneForGood();
        catchesUpToHeightFortyOne();
        weightOfTheLastHeight();
        nextHeightIsKept();
        nextHeightIsKeptApart();
        nextButOneIsPassedOver();
        unlikeOnesOfTheNextHeightAreEvidence();
        unlikeOnesOfTheNextButOneAreNone();
        heightBehindIsPassedOver();
        CHECK.finish();
    }
}
