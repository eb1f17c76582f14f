/** Promise 4: disturb. In turn 1 node 1 of four sends a proposal (copies 0 to 2) and a prevote (3 to 5). */
public final class DisturbTest {
    private static final Check CHECK = new Check();
    private static final int SEED = -5;
    private static final int VALUE = Check.own(SEED, 1, 1, 0);

    private static void answers() {
        RoundVotes x = new RoundVotes(4, SEED);
        CHECK.due("disturb(-1, 0, 0)", x.disturb(-1, 0, 0), RoundVotes.BAD);
        CHECK.due("disturb(0, -1, 0)", x.disturb(0, -1, 0), RoundVotes.BAD);
        CHECK.due("disturb(0, 3, 0)", x.disturb(0, 3, 0), RoundVotes.BAD);
        CHECK.due("disturb(0, 2, 0)", x.disturb(0, 2, 0), RoundVotes.BAD);
        CHECK.due("disturb(0, 2, 21)", x.disturb(0, 2, 21), RoundVotes.BAD);
        CHECK.due("disturb(0, 2, 1)", x.disturb(0, 2, 1), 1);
        CHECK.due("disturb(0, 2, 1) again", x.disturb(0, 2, 1), RoundVotes.BAD);
        CHECK.due("disturb(1, 2, 20)", x.disturb(1, 2, 20), 2);
        CHECK.due("disturb(2, 0, -7)", x.disturb(2, 0, -7), 3);
        CHECK.due("disturb(3, 1, 99)", x.disturb(3, 1, 99), 4);
        CHECK.due("disturb(2147483647, 0, 0)", x.disturb(Integer.MAX_VALUE, 0, 0), 5);
        x.turn(1);
        CHECK.due("disturb(5, 0, 0), gone", x.disturb(5, 0, 0), RoundVotes.BAD);
        CHECK.due("disturb(0, 0, 0), gone", x.disturb(0, 0, 0), RoundVotes.BAD);
        CHECK.due("disturb(6, 0, 0), the next one", x.disturb(6, 0, 0), 2);
    }

    private static void full() {
        RoundVotes x = new RoundVotes(4, SEED);
        for (int k = 0; k < 60; k++) {
            CHECK.due("disturb(" + k + ", 1, 0)", x.disturb(k, 1, 0), k + 1);
        }
        CHECK.due("disturb(60, 1, 0)", x.disturb(60, 1, 0), RoundVotes.FULL);
        CHECK.due("disturb(59, 1, 0), told before", x.disturb(59, 1, 0), RoundVotes.BAD);
        CHECK.due("disturb(60, 3, 0)", x.disturb(60, 3, 0), RoundVotes.BAD);
        x.turn(1);
        CHECK.due("disturb(60, 1, 0) when six have gone", x.disturb(60, 1, 0), 55);
    }

    private static void lostAndDoubledAndLate() {
        RoundVotes x = new RoundVotes(4, SEED);
        x.behave(0, 1);
        x.behave(2, 1);
        x.behave(3, 1);
        x.disturb(0, 0, 0);
        x.disturb(1, 1, 0);
        x.disturb(2, 2, 2);
        x.turn(1);
        CHECK.due("count(1)", x.count(1), 6);
        CHECK.due("count(3)", x.count(3), 1);
        CHECK.due("count(4)", x.count(4), 6);
        x.turn(1);
        CHECK.due("count(2) in turn 2", x.count(2), 4);
        CHECK.due("vote(2, 0, 1, 0)", x.vote(2, 0, 1, 0), VALUE);
        CHECK.due("vote(3, 0, 1, 0) in turn 2", x.vote(3, 0, 1, 0), RoundVotes.NONE);
        x.turn(1);
        CHECK.due("count(2) in turn 3", x.count(2), 5);
        CHECK.due("vote(3, 0, 1, 0) in turn 3", x.vote(3, 0, 1, 0), RoundVotes.NONE);
        x.turn(1);
        CHECK.due("count(2) in turn 4", x.count(2), 6);
        CHECK.due("vote(3, 0, 1, 0) in turn 4", x.vote(3, 0, 1, 0), VALUE);
        CHECK.due("vote(0, 0, 1, 0)", x.vote(0, 0, 1, 0), RoundVotes.NONE);
        CHECK.due("count(1)", x.count(1), 6);
        CHECK.due("count(4)", x.count(4), 0);
        CHECK.due("evidence(-1, 0)", x.evidence(-1, 0), 0);
    }

    /** Node 0 is cut in turn 2; in turn 3 the second one of copy 0 and the late copy 3 (of the other value) come. */
    private static void secondOnesComeLast() {
        RoundVotes x = new RoundVotes(4, SEED);
        x.behave(1, 3);
        x.disturb(0, 1, 0);
        x.disturb(3, 2, 1);
        x.turn(1);
        x.cut(0, 1);
        x.turn(2);
        CHECK.due("vote(0, 0, 1, 0), second one last", x.vote(0, 0, 1, 0), VALUE + 1);
    }

    private static void whatWentFirstComesFirst() {
        RoundVotes late = new RoundVotes(4, SEED);
        late.behave(1, 3);
        late.disturb(0, 2, 1);
        late.disturb(3, 2, 1);
        late.turn(3);
        CHECK.due("vote(0, 0, 1, 0), both late", late.vote(0, 0, 1, 0), VALUE);
        RoundVotes one = new RoundVotes(4, SEED);
        one.behave(1, 3);
        one.disturb(0, 2, 1);
        one.turn(3);
        CHECK.due("vote(0, 0, 1, 0), the first late", one.vote(0, 0, 1, 0), VALUE + 1);
    }

    public static void main(String[] args) {
        answers();
        full();
        lostAndDoubledAndLate();
        secondOnesComeLast();
        whatWentFirstComesFirst();
        CHECK.finish();
    }
}
