/** Promise 5: sides. */
public final class SidesTest {
    private static final Check CHECK = new Check();

    private static void wrongInputs() {
        RoundVotes x = new RoundVotes(4, 1);
        CHECK.due("sides(1, 0)", x.sides(1, 0), RoundVotes.BAD);
        CHECK.due("sides(1, -1)", x.sides(1, -1), RoundVotes.BAD);
        CHECK.due("sides(1, 101)", x.sides(1, 101), RoundVotes.BAD);
        CHECK.due("count(8)", x.count(8), 0);
        CHECK.due("sides(1, 100)", x.sides(1, 100), 1);
        CHECK.due("count(8)", x.count(8), 100);
        CHECK.due("sides(1, 101)", x.sides(1, 101), RoundVotes.BAD);
        CHECK.due("count(8) behind a BAD call", x.count(8), 100);
        CHECK.due("sides(1, 1)", x.sides(1, 1), 1);
        CHECK.due("count(8)", x.count(8), 1);
    }

    /** Node 1 sends six copies in turn 1, and node 0 three in turn 2: four and two cross the sides. */
    private static void losesWhatCrosses() {
        RoundVotes x = new RoundVotes(4, 1);
        x.sides(3, 2);
        x.turn(1);
        CHECK.due("count(3) in turn 1", x.count(3), 4);
        CHECK.due("count(8) in turn 1", x.count(8), 1);
        x.turn(1);
        CHECK.due("count(3) in turn 2", x.count(3), 6);
        CHECK.due("count(8) in turn 2", x.count(8), 0);
        CHECK.due("node(1, 12)", x.node(1, 12), 6);
        CHECK.due("vote(0, 0, 1, 0)", x.vote(0, 0, 1, 0), Check.own(1, 1, 1, 0));
        CHECK.due("vote(2, 0, 1, 0)", x.vote(2, 0, 1, 0), RoundVotes.NONE);
        x.turn(20);
        CHECK.due("count(3) when they last no more", x.count(3), 6);
    }

    private static void lastTurnIsInside() {
        RoundVotes x = new RoundVotes(4, 1);
        x.sides(2, 1);
        x.turn(1);
        CHECK.due("count(3), node 1 alone", x.count(3), 6);
        x.turn(4);
        CHECK.due("count(3), prevotes NIL of turn 5", x.count(3), 6);
    }

    private static int lostUnder(int bits) {
        RoundVotes x = new RoundVotes(4, 1);
        x.sides(bits, 100);
        x.turn(10);
        return x.count(3);
    }

    private static void bitsThatDoNotPart() {
        CHECK.due("lost under 0", lostUnder(0), 0);
        CHECK.due("lost under -1", lostUnder(-1), 0);
        CHECK.due("lost under 15", lostUnder(15), 0);
        CHECK.due("lost under 1 << 10", lostUnder(1 << 10), 0);
        CHECK.due("lost under 1 << 31", lostUnder(1 << 31), 0);
    }

    private static void whatWasToldBeforeIsNoMore() {
        RoundVotes x = new RoundVotes(4, 1);
        x.sides(2, 100);
        x.sides(0, 1);
        x.turn(5);
        CHECK.due("count(3)", x.count(3), 0);
        CHECK.due("count(8)", x.count(8), 0);
    }

    /** Of ten nodes, node 9 alone: what goes to it or from it is lost, and no other one. */
    private static void lowestTenBitsCount() {
        int[] bits = {1 << 9, 1 << 9 | 1 << 10, -1 ^ 1 << 9, 511, 511 | 1 << 31};
        for (int told : bits) {
            RoundVotes x = new RoundVotes(10, 1);
            x.sides(told, 100);
            x.turn(2);
            CHECK.due("count(3) under " + told, x.count(3), 10);
            CHECK.due("vote(9, 0, 1, 0) under " + told, x.vote(9, 0, 1, 0), RoundVotes.NONE);
            CHECK.due("vote(8, 0, 1, 0) under " + told, x.vote(8, 0, 1, 0), Check.own(1, 1, 1, 0));
        }
        for (int told : new int[] {1 << 10, 1023, 1023 | 1 << 30, -1024, Integer.MIN_VALUE, Integer.MAX_VALUE}) {
            RoundVotes x = new RoundVotes(10, 1);
            x.sides(told, 100);
            x.turn(2);
            CHECK.due("count(3) under " + told, x.count(3), 0);
        }
    }

    /**
     * Two nodes are parted from this time on for so many turns; node 1, the proposer, is cut so that it comes back in a
     * given turn and sends a proposal and a prevote in that one: how many of these two are lost.
     */
    private static int lostOfTurn(int turn, int toldAt, int turns) {
        RoundVotes x = new RoundVotes(2, 1);
        x.behave(0, 1);
        int lostAhead = 0;
        for (int time = 0; time < turn; time++) {
            if (time == toldAt) {
                x.sides(1, turns);
            }
            if (time == turn - 2) {
                x.cut(1, 1);
            }
            lostAhead = x.count(3);
            x.turn(1);
        }
        CHECK.due("count(1) in turn " + turn, x.count(1), 4);
        return x.count(3) - lostAhead;
    }

    private static void fromTheNextTurnToTheLastOne() {
        CHECK.due("lost in turn 10, told at 9 for 1", lostOfTurn(10, 9, 1), 2);
        CHECK.due("lost in turn 10, told at 8 for 1", lostOfTurn(10, 8, 1), 0);
        CHECK.due("lost in turn 10, told at 8 for 2", lostOfTurn(10, 8, 2), 2);
        CHECK.due("lost in turn 100, told at 0 for 100", lostOfTurn(100, 0, 100), 2);
        CHECK.due("lost in turn 101, told at 0 for 100", lostOfTurn(101, 0, 100), 0);
        CHECK.due("lost in turn 100, told at 0 for 99", lostOfTurn(100, 0, 99), 0);
    }

    /** What is on its way when they are told comes: it was not parted when it went. */
    private static void whatWentAheadOfThemComes() {
        RoundVotes x = new RoundVotes(4, 1);
        x.turn(1);
        x.sides(2, 1);
        x.turn(1);
        CHECK.due("count(2) in turn 2", x.count(2), 6);
        CHECK.due("vote(0, 0, 1, 0) in turn 2", x.vote(0, 0, 1, 0), Check.own(1, 1, 1, 0));
        CHECK.due("count(3), prevotes to node 1", x.count(3), 3);
        x.turn(1);
        CHECK.due("count(3) in turn 3", x.count(3), 3);
    }

    /** Node 2 catches up in turn 5 and proposes in height 2: that goes in turn 5, and the first turn of the sides is 6. */
    private static void notInTheTurnInWhichTheyAreTold() {
        RoundVotes x = new RoundVotes(4, 7);
        x.turn(1);
        x.cut(2, 3);
        x.turn(4);
        int lost = x.count(3);
        x.sides(4, 1);
        CHECK.due("catchUp(2)", x.catchUp(2), 1);
        CHECK.due("count(3) in turn 5", x.count(3), lost);
        x.turn(1);
        CHECK.due("vote(0, 0, 2, 0) in turn 6", x.vote(0, 0, 2, 0), Check.own(7, 2, 2, 0));
        CHECK.due("count(3) in turn 6", x.count(3) > lost ? 1 : 0, 1);
    }

    /** Told anew they last from then on; and other bits part others. */
    private static void toldAnew() {
        RoundVotes x = new RoundVotes(4, 1);
        x.sides(2, 5);
        x.turn(3);
        CHECK.due("count(8) in turn 3", x.count(8), 2);
        CHECK.due("sides(0, 100)", x.sides(0, 100), 1);
        CHECK.due("count(8), told anew", x.count(8), 100);
        int lost = x.count(3);
        x.turn(20);
        CHECK.due("count(3)", x.count(3), lost);
        CHECK.due("count(8) in turn 23", x.count(8), 80);
    }

    public static void main(String[] args) {
        lowestTenBitsCount();
        fromTheNextTurnToTheLastOne();
        whatWentAheadOfThemComes();
        notInTheTurnInWhichTheyAreTold();
        toldAnew();
        wrongInputs();
        losesWhatCrosses();
        lastTurnIsInside();
        bitsThatDoNotPart();
        whatWasToldBeforeIsNoMore();
        CHECK.finish();
    }
}
