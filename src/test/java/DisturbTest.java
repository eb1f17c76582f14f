/** Promise 4: disturb. In turn 1 node 1 of four sends a proposal (copies 0 to 2) and a prevote (3 to 5). */
public final class DisturbTest {
    private static final Check CHECK = new Check();
    private static final int SEED = -5;
    private static final int VALUE = Check.own(SEED, 1, 1, 0);

    private static void answers() {
        RoundVotes x = new RoundVotes(4, SEED);
        CHECK.due("disturb(-1, 0, 0)", x.disturb(-1, 0, 0), RoundVotes.BAD);
        CHECK.due("disturb(0, -1, 0)", x.disturb(0, -1, 0), RoundVotes.BAD);
        CHECK.due("disturb(0, 3, 0)", x.disturb(0, 3, 0), RoundVotes.BAD);
        CHECK.due("disturb(0, 2, 0)", x.disturb(0, 2, 0), RoundVotes.BAD);
        CHECK.due("disturb(0, 2, 21)", x.disturb(0, 2, 21), RoundVotes.BAD);
        CHECK.due("disturb(0, 2, 1)", x.disturb(0, 2, 1), 1);
        CHECK.due("disturb(0, 2, 1) again", x.disturb(0, 2, 1), RoundVotes.BAD);
        CHECK.due("disturb(1, 2, 20)", x.disturb(1, 2, 20), 2);
        CHECK.due("disturb(2, 0, -7)", x.disturb(2, 0, -7), 3);
        CHECK.due("disturb(3, 1, 99)", x.disturb(3, 1, 99), 4);
        CHECK.due("disturb(2147483647, 0, 0)", x.disturb(Integer.MAX_VALUE, 0, 0), 5);
        x.turn(1);
        CHECK.due("disturb(5, 0, 0), gone", x.disturb(5, 0, 0), RoundVotes.BAD);
        CHECK.due("disturb(0, 0, 0), gone", x.disturb(0, 0, 0), RoundVotes.BAD);
        CHECK.due("disturb(6, 0, 0), the next one", x.disturb(6, 0, 0), 2);
    }

    private static void full() {
        RoundVotes x = new RoundVotes(4, SEED);
        for (int k = 0; k < 60; k++) {
            CHECK.due("disturb(" + k + ", 1, 0)", x.disturb(k, 1, 0), k + 1);
        }
        CHECK.due("disturb(60, 1, 0)", x.disturb(60, 1, 0), RoundVotes.FULL);
        CHECK.due("disturb(59, 1, 0), told before", x.disturb(59, 1, 0), RoundVotes.BAD);
        CHECK.due("disturb(60, 3, 0)", x.disturb(60, 3, 0), RoundVotes.BAD);
        x.turn(1);
        CHECK.due("disturb(60, 1, 0) when six have gone", x.disturb(60, 1, 0), 55);
    }

    private static void lostAndDoubledAndLate() {
        RoundVotes x = new RoundVotes(4, SEED);
        x.behave(0, 1);
        x.behave(2, 1);
        x.behave(3, 1);
        x.disturb(0, 0, 0);
        x.disturb(1, 1, 0);
        x.disturb(2, 2, 2);
        x.turn(1);
        CHECK.due("count(1)", x.count(1), 6);
        CHECK.due("count(3)", x.count(3), 1);
        CHECK.due("count(4)", x.count(4), 6);
        x.turn(1);
        CHECK.due("count(2) in turn 2", x.count(2), 4);
        CHECK.due("vote(2, 0, 1, 0)", x.vote(2, 0, 1, 0), VALUE);
        CHECK.due("vote(3, 0, 1, 0) in turn 2", x.vote(3, 0, 1, 0), RoundVotes.NONE);
        x.turn(1);
        CHECK.due("count(2) in turn 3", x.count(2), 5);
        CHECK.due("vote(3, 0, 1, 0) in turn 3", x.vote(3, 0, 1, 0), RoundVotes.NONE);
        x.turn(1);
        CHECK.due("count(2) in turn 4", x.count(2), 6);
        CHECK.due("vote(3, 0, 1, 0) in turn 4", x.vote(3, 0, 1, 0), VALUE);
        CHECK.due("vote(0, 0, 1, 0)", x.vote(0, 0, 1, 0), RoundVotes.NONE);
        CHECK.due("count(1)", x.count(1), 6);
        CHECK.due("count(4)", x.count(4), 0);
        CHECK.due("evidence(-1, 0)", x.evidence(-1, 0), 0);
    }

    /** Node 0 is cut in turn 2; in turn 3 the second one of copy 0 and the late copy 3 (of the other value) come. */
    private static void secondOnesComeLast() {
        RoundVotes x = new RoundVotes(4, SEED);
        x.behave(1, 3);
        x.disturb(0, 1, 0);
        x.disturb(3, 2, 1);
        x.turn(1);
        x.cut(0, 1);
        x.turn(2);
        CHECK.due("vote(0, 0, 1, 0), second one last", x.vote(0, 0, 1, 0), VALUE + 1);
    }

    private static void whatWentFirstComesFirst() {
        RoundVotes late = new RoundVotes(4, SEED);
        late.behave(1, 3);
        late.disturb(0, 2, 1);
        late.disturb(3, 2, 1);
        late.turn(3);
        CHECK.due("vote(0, 0, 1, 0), both late", late.vote(0, 0, 1, 0), VALUE);
        RoundVotes one = new RoundVotes(4, SEED);
        one.behave(1, 3);
        one.disturb(0, 2, 1);
        one.turn(3);
        CHECK.due("vote(0, 0, 1, 0), the first late", one.vote(0, 0, 1, 0), VALUE + 1);
    }

    /** Node 3 gets copy 2, that goes in turn 1, in turn 2 and so many turns later; the others send nothing. */
    private static void lateBy(int turns) {
        RoundVotes x = new RoundVotes(4, SEED);
        x.behave(0, 1);
        x.behave(2, 1);
        x.behave(3, 1);
        CHECK.due("disturb(2, 2, " + turns + ")", x.disturb(2, 2, turns), 1);
        x.turn(1 + turns);
        CHECK.due("late by " + turns + ": vote(3, 0, 1, 0) a turn ahead", x.vote(3, 0, 1, 0), RoundVotes.NONE);
        CHECK.due("late by " + turns + ": count(4) a turn ahead", x.count(4), 1);
        x.turn(1);
        CHECK.due("late by " + turns + ": vote(3, 0, 1, 0)", x.vote(3, 0, 1, 0), VALUE);
        CHECK.due("late by " + turns + ": count(4)", x.count(4), 0);
        CHECK.due("late by " + turns + ": count(2)", x.count(2), 6);
    }

    /** How many turns it is late is asked of LATE ones alone. */
    private static void byCountsForLateAlone() {
        int[] numbers = {Integer.MIN_VALUE, -1, 0, 21, Integer.MAX_VALUE};
        for (int by : numbers) {
            RoundVotes x = new RoundVotes(4, SEED);
            CHECK.due("disturb(0, 0, " + by + ")", x.disturb(0, 0, by), 1);
            CHECK.due("disturb(1, 1, " + by + ")", x.disturb(1, 1, by), 2);
            CHECK.due("disturb(2, 2, " + by + ")", x.disturb(2, 2, by), RoundVotes.BAD);
            x.turn(1);
            CHECK.due("count(3)", x.count(3), 1);
            CHECK.due("count(4)", x.count(4), 6);
        }
    }

    /** What was refused has not been told: copy 0 comes as others do, and may be told rightly. */
    private static void refusedIsNotTold() {
        RoundVotes x = new RoundVotes(4, SEED);
        x.disturb(0, 2, 21);
        x.disturb(0, 3, 1);
        CHECK.due("disturb(0, 2, 20)", x.disturb(0, 2, 20), 1);
        RoundVotes y = new RoundVotes(4, SEED);
        y.disturb(0, 2, 0);
        y.turn(2);
        CHECK.due("vote(0, 0, 1, 0) in turn 2", y.vote(0, 0, 1, 0), VALUE);
    }

    /** Sixty are told, the sixty-first is not; once one has gone there is room for one more, and for no other. */
    private static void sixtyThatHaveNotGone() {
        RoundVotes x = new RoundVotes(4, SEED);
        CHECK.due("disturb(0, 1, 0)", x.disturb(0, 1, 0), 1);
        for (int k = 1; k < 60; k++) {
            CHECK.due("disturb of number " + k, x.disturb(1_000_000 + k, 0, 0), k + 1);
        }
        CHECK.due("disturb(1, 0, 0), full", x.disturb(1, 0, 0), RoundVotes.FULL);
        CHECK.due("disturb(1, 2, 21), full, too", x.disturb(1, 2, 21), RoundVotes.BAD);
        CHECK.due("disturb(-1, 0, 0), full, too", x.disturb(-1, 0, 0), RoundVotes.BAD);
        CHECK.due("disturb(0, 0, 0), told before, full, too", x.disturb(0, 0, 0), RoundVotes.BAD);
        x.turn(1);
        CHECK.due("count(3), copy 1 was not told", x.count(3), 0);
        CHECK.due("disturb(6, 0, 0), one has gone", x.disturb(6, 0, 0), 60);
        CHECK.due("disturb(7, 0, 0), full again", x.disturb(7, 0, 0), RoundVotes.FULL);
        x.turn(1);
        CHECK.due("count(3), copy 6", x.count(3), 1);
    }

    /** Copy 6 is the first of turn 2: neither the one ahead of it nor the one behind it is lost. */
    private static void justThatCopy() {
        RoundVotes x = new RoundVotes(4, SEED);
        x.turn(1);
        CHECK.due("disturb(5, 0, 0), the last that has gone", x.disturb(5, 0, 0), RoundVotes.BAD);
        CHECK.due("disturb(6, 0, 0), the next one", x.disturb(6, 0, 0), 1);
        x.turn(2);
        CHECK.due("vote(1, 0, 0, 1), copy 6", x.vote(1, 0, 0, 1), RoundVotes.NONE);
        CHECK.due("vote(2, 0, 0, 1), copy 7", x.vote(2, 0, 0, 1), VALUE);
        CHECK.due("vote(0, 0, 1, 1), copy 3", x.vote(0, 0, 1, 1), VALUE);
    }

    /** Copy 0 and its second one come in turns 2 and 3: each is lost for itself, if node 0 is cut when it comes. */
    private static void eachOfTwoMayFindItsReceiverCut() {
        RoundVotes first = doubledToNodeZero();
        first.cut(0, 1);
        first.turn(1);
        CHECK.due("first lost: count(3) in turn 2", first.count(3), 2);
        first.turn(1);
        CHECK.due("first lost: vote(0, 0, 1, 0) in turn 3", first.vote(0, 0, 1, 0), VALUE);
        CHECK.due("first lost: count(3) in turn 3", first.count(3), 2);
        RoundVotes second = doubledToNodeZero();
        second.turn(1);
        CHECK.due("second lost: vote(0, 0, 1, 0) in turn 2", second.vote(0, 0, 1, 0), VALUE);
        second.cut(0, 1);
        second.turn(1);
        CHECK.due("second lost: count(3) in turn 3", second.count(3), 1);
        second.turn(1);
        CHECK.due("second lost: vote(0, 0, 1, 0) in turn 4", second.vote(0, 0, 1, 0), RoundVotes.NONE);
    }

    private static RoundVotes doubledToNodeZero() {
        RoundVotes x = new RoundVotes(4, SEED);
        x.behave(0, 1);
        x.behave(2, 1);
        x.behave(3, 1);
        x.disturb(0, 1, 0);
        x.turn(1);
        return x;
    }

    /** A second one has no number: copy 6 is node 0's prevote, though a second one went ahead of it. */
    private static void secondOnesHaveNoNumber() {
        RoundVotes x = new RoundVotes(4, SEED);
        x.disturb(0, 1, 0);
        x.disturb(6, 0, 0);
        x.turn(1);
        CHECK.due("count(1) in turn 1", x.count(1), 6);
        CHECK.due("node(1, 12) in turn 1", x.node(1, 12), 6);
        x.turn(2);
        CHECK.due("vote(1, 0, 0, 1)", x.vote(1, 0, 0, 1), RoundVotes.NONE);
        CHECK.due("vote(2, 0, 0, 1)", x.vote(2, 0, 0, 1), VALUE);
    }

    /** A copy that goes to the other side is lost once, and no second one of it comes. */
    private static void doubledToTheOtherSide() {
        RoundVotes x = new RoundVotes(4, SEED);
        x.disturb(0, 1, 0);
        x.sides(1, 1);
        x.turn(1);
        CHECK.due("count(3), copies 0 and 3", x.count(3), 2);
        CHECK.due("count(4)", x.count(4), 4);
        CHECK.due("disturb(100, 0, 0), copy 0 has gone", x.disturb(100, 0, 0), 1);
    }

    public static void main(String[] args) {
        lateBy(1);
        lateBy(2);
        lateBy(19);
        lateBy(20);
        byCountsForLateAlone();
        refusedIsNotTold();
        sixtyThatHaveNotGone();
        justThatCopy();
        eachOfTwoMayFindItsReceiverCut();
        secondOnesHaveNoNumber();
        doubledToTheOtherSide();
        answers();
        full();
        lostAndDoubledAndLate();
        secondOnesComeLast();
        whatWentFirstComesFirst();
        CHECK.finish();
    }
}
