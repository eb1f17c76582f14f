/** Promise 15: count. */
public final class CountTest {
    private static final Check CHECK = new Check();

    private static void countsAre(RoundVotes x, int... due) {
        for (int what = 0; what < due.length; what++) {
            CHECK.due("count(" + what + ") at " + x.count(0), x.count(what), due[what]);
        }
        CHECK.due("count(-1)", x.count(-1), RoundVotes.BAD);
        CHECK.due("count(9)", x.count(9), RoundVotes.BAD);
    }

    public static void main(String[] args) {
        RoundVotes x = new RoundVotes(4, 7);
        countsAre(x, 0, 0, 0, 0, 0, 0, 4, 4, 0);
        x.weight(3, 2);
        x.weight(3, 1);
        x.turn(1);
        countsAre(x, 1, 6, 0, 0, 6, 0, 4, 4, 0);
        x.turn(1);
        countsAre(x, 2, 15, 6, 0, 9, 0, 4, 4, 0);
        x.turn(1);
        countsAre(x, 3, 27, 15, 0, 12, 0, 4, 4, 0);
        x.weight(3, 5);
        x.sides(1, 7);
        x.cut(3, 2);
        countsAre(x, 3, 27, 15, 0, 12, 0, 4, 4, 7);
        x.turn(1);
        // Three precommits to node 3 are lost; node 2 proposes and prevotes, and what it sends to node 0 is lost.
        countsAre(x, 4, 33, 24, 5, 4, 1, 4, 4, 6);
        CHECK.finish();
    }
}
