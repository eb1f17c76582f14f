/** Promise 5: sides. */
public final class SidesTest {
    private static final Check CHECK = new Check();

    private static void wrongInputs() {
        RoundVotes x = new RoundVotes(4, 1);
        CHECK.due("sides(1, 0)", x.sides(1, 0), RoundVotes.BAD);
        CHECK.due("sides(1, -1)", x.sides(1, -1), RoundVotes.BAD);
        CHECK.due("sides(1, 101)", x.sides(1, 101), RoundVotes.BAD);
        CHECK.due("count(8)", x.count(8), 0);
        CHECK.due("sides(1, 100)", x.sides(1, 100), 1);
        CHECK.due("count(8)", x.count(8), 100);
        CHECK.due("sides(1, 101)", x.sides(1, 101), RoundVotes.BAD);
        CHECK.due("count(8) behind a BAD call", x.count(8), 100);
        CHECK.due("sides(1, 1)", x.sides(1, 1), 1);
        CHECK.due("count(8)", x.count(8), 1);
    }

    /** Node 1 sends six copies in turn 1, and node 0 three in turn 2: four and two cross the sides. */
    private static void losesWhatCrosses() {
        RoundVotes x = new RoundVotes(4, 1);
        x.sides(3, 2);
        x.turn(1);
        CHECK.due("count(3) in turn 1", x.count(3), 4);
        CHECK.due("count(8) in turn 1", x.count(8), 1);
        x.turn(1);
        CHECK.due("count(3) in turn 2", x.count(3), 6);
        CHECK.due("count(8) in turn 2", x.count(8), 0);
        CHECK.due("node(1, 12)", x.node(1, 12), 6);
        CHECK.due("vote(0, 0, 1, 0)", x.vote(0, 0, 1, 0), Check.own(1, 1, 1, 0));
        CHECK.due("vote(2, 0, 1, 0)", x.vote(2, 0, 1, 0), RoundVotes.NONE);
        x.turn(20);
        CHECK.due("count(3) when they last no more", x.count(3), 6);
    }

    private static void lastTurnIsInside() {
        RoundVotes x = new RoundVotes(4, 1);
        x.sides(2, 1);
        x.turn(1);
        CHECK.due("count(3), node 1 alone", x.count(3), 6);
        x.turn(4);
        CHECK.due("count(3), prevotes NIL of turn 5", x.count(3), 6);
    }

    private static int lostUnder(int bits) {
        RoundVotes x = new RoundVotes(4, 1);
        x.sides(bits, 100);
        x.turn(10);
        return x.count(3);
    }

    private static void bitsThatDoNotPart() {
        CHECK.due("lost under 0", lostUnder(0), 0);
        CHECK.due("lost under -1", lostUnder(-1), 0);
        CHECK.due("lost under 15", lostUnder(15), 0);
        CHECK.due("lost under 1 << 10", lostUnder(1 << 10), 0);
        CHECK.due("lost under 1 << 31", lostUnder(1 << 31), 0);
    }

    private static void whatWasToldBeforeIsNoMore() {
        RoundVotes x = new RoundVotes(4, 1);
        x.sides(2, 100);
        x.sides(0, 1);
        x.turn(5);
        CHECK.due("count(3)", x.count(3), 0);
        CHECK.due("count(8)", x.count(8), 0);
    }

    public static void main(String[] args) {
        wrongInputs();
        losesWhatCrosses();
        lastTurnIsInside();
        bitsThatDoNotPart();
        whatWasToldBeforeIsNoMore();
        CHECK.finish();
    }
}
