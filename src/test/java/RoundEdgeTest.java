/**
 * ROUNDS are 0 .. 29, a ROUND 30 does not begin; the timers of the first and the last one; the least and the greatest
 * ROUND in rules A and B, and the ROUNDS that rule C compares.
 *
 * Four nodes that vote NIL begin round r + 1 just 6 + r turns behind round r: prevotes in the turns 0 and 1 of it,
 * precommits in turn 2, timer C of 3 + r turns from turn 3 on. So round 29 begins in turn 581. Node 2 proposes in it.
 */
public final class RoundEdgeTest {
    private static final Check CHECK = new Check();
    private static final int SEED = 7;
    private static final int VALUE = Check.own(SEED, 1, 1, 0);
    private static final int LAST_BEGINS = 581;
    private static final int SILENT = 1, BOTH = 3, ALL_NIL = 5;
    private static final int LOST = 0, LATE = 2;

    private static RoundVotes fourNil() {
        RoundVotes x = new RoundVotes(4, SEED);
        for (int i = 0; i < 4; i++) {
            x.behave(i, ALL_NIL);
        }
        return x;
    }

    private static void turnTo(RoundVotes x, int time) {
        for (int k = 0; k < 20 && x.count(0) < time; k++) {
            x.turn(Math.min(100, time - x.count(0)));
        }
        CHECK.due("count(0)", x.count(0), time);
    }

    private static RoundVotes aheadOfTheLastRound() {
        RoundVotes x = fourNil();
        turnTo(x, LAST_BEGINS - 1);
        for (int i = 0; i < 4; i++) {
            CHECK.due("node(" + i + ", 1) in turn 580", x.node(i, 1), 28);
        }
        return x;
    }

    private static void lastRoundBegins() {
        RoundVotes x = aheadOfTheLastRound();
        x.turn(1);
        for (int i = 0; i < 4; i++) {
            CHECK.due("node(" + i + ", 1) in turn 581", x.node(i, 1), 29);
            CHECK.due("node(" + i + ", 2) in turn 581", x.node(i, 2), i == 2 ? 1 : 0);
            CHECK.due("node(" + i + ", 9), P of 33 turns", x.node(i, 9), LAST_BEGINS + 33);
        }
        CHECK.due("vote(2, 29, 2, 0)", x.vote(2, 29, 2, 0), Check.own(SEED, 2, 1, 29));
        CHECK.due("vote(2, 29, 2, 3)", x.vote(2, 29, 2, 3), -1);
        x.turn(1);
        CHECK.due("vote(0, 29, 2, 0)", x.vote(0, 29, 2, 0), Check.own(SEED, 2, 1, 29));
        CHECK.due("vote(0, 29, 2, 1)", x.vote(0, 29, 2, 1), 0);
        CHECK.due("vote(0, 30, 2, 0)", x.vote(0, 30, 2, 0), RoundVotes.BAD);
        x.turn(2);
        CHECK.due("node(0, 11), C of 32 turns", x.node(0, 11), 584 + 32);
    }

    /** C ends in turn 616: nothing begins, nothing is sent, and G does not set it once more. */
    private static void roundThirtyDoesNotBegin() {
        RoundVotes x = aheadOfTheLastRound();
        turnTo(x, 615);
        int gone = x.count(1);
        CHECK.due("node(0, 9) in turn 615, P has ended", x.node(0, 9), 0);
        CHECK.due("node(0, 11) in turn 615", x.node(0, 11), 616);
        for (int turns : new int[] {1, 1, 100}) {
            x.turn(turns);
            for (int i = 0; i < 4; i++) {
                String at = ") in turn " + x.count(0);
                CHECK.due("node(" + i + ", 0" + at, x.node(i, 0), 1);
                CHECK.due("node(" + i + ", 1" + at, x.node(i, 1), 29);
                CHECK.due("node(" + i + ", 2" + at, x.node(i, 2), 2);
                CHECK.due("node(" + i + ", 9" + at, x.node(i, 9), 0);
                CHECK.due("node(" + i + ", 10" + at, x.node(i, 10), 0);
                CHECK.due("node(" + i + ", 11" + at, x.node(i, 11), 0);
                CHECK.due("vote(" + i + ", 29, " + i + ", 2" + at, x.vote(i, 29, i, 2), 0);
            }
            CHECK.due("count(1), none more has gone", x.count(1), gone);
        }
    }

    /** A node that comes back in round 29 begins that one again, and sends what it signed. */
    private static void lastRoundBeginsAgain() {
        RoundVotes x = aheadOfTheLastRound();
        turnTo(x, 620);
        int sent = x.node(2, 12);
        x.cut(2, 1);
        x.turn(2);
        CHECK.due("node(2, 1) in turn 622", x.node(2, 1), 29);
        CHECK.due("node(2, 2) in turn 622", x.node(2, 2), 1);
        CHECK.due("node(2, 9) in turn 622", x.node(2, 9), 622 + 33);
        CHECK.due("node(2, 11) in turn 622", x.node(2, 11), 0);
        CHECK.due("node(2, 12) in turn 622", x.node(2, 12), sent + 6);
        CHECK.due("vote(2, 29, 2, 2) in turn 622", x.vote(2, 29, 2, 2), 0);
    }

    private static void lastRoundDecides() {
        RoundVotes x = aheadOfTheLastRound();
        for (int i = 0; i < 4; i++) {
            x.behave(i, 0);
        }
        x.turn(4);
        for (int i = 0; i < 4; i++) {
            CHECK.due("decided(" + i + ", 1, 0)", x.decided(i, 1, 0), Check.own(SEED, 2, 1, 29));
            CHECK.due("decided(" + i + ", 1, 1)", x.decided(i, 1, 1), 29);
            CHECK.due("node(" + i + ", 0)", x.node(i, 0), 2);
            CHECK.due("node(" + i + ", 1)", x.node(i, 1), 0);
        }
    }

    /** Prevotes of round 29 are torn, so V is set in turn 583 and ends in a precommit for NIL. */
    private static void timerVOfTheLastRound() {
        RoundVotes x = aheadOfTheLastRound();
        x.behave(1, 0);
        x.behave(2, 0);
        x.behave(3, SILENT);
        turnTo(x, 583);
        CHECK.due("node(1, 10), V of 32 turns", x.node(1, 10), 583 + 32);
        turnTo(x, 614);
        CHECK.due("node(1, 2) in turn 614", x.node(1, 2), 1);
        x.turn(1);
        CHECK.due("node(1, 2) in turn 615", x.node(1, 2), 2);
        CHECK.due("vote(1, 29, 1, 2) in turn 615", x.vote(1, 29, 1, 2), 0);
    }

    /** No proposal comes: P, of 4 turns in round 0 and of 5 in round 1, ends in a prevote for NIL, not a turn ahead. */
    private static void timerPOfTheFirstRounds() {
        RoundVotes x = new RoundVotes(4, SEED);
        x.behave(1, SILENT);
        x.behave(2, SILENT);
        x.turn(4);
        CHECK.due("node(0, 2) in turn 4", x.node(0, 2), 0);
        CHECK.due("node(0, 9) in turn 4", x.node(0, 9), 5);
        x.turn(1);
        CHECK.due("node(0, 2) in turn 5", x.node(0, 2), 1);
        CHECK.due("node(0, 9) in turn 5", x.node(0, 9), 0);
        CHECK.due("vote(0, 0, 0, 1) in turn 5", x.vote(0, 0, 0, 1), 0);
        RoundVotes y = fourNil();
        y.turn(6);
        y.behave(2, SILENT);
        y.turn(5);
        CHECK.due("node(0, 1) in turn 11", y.node(0, 1), 1);
        CHECK.due("node(0, 2) in turn 11", y.node(0, 2), 0);
        y.turn(1);
        CHECK.due("node(0, 2) in turn 12", y.node(0, 2), 1);
    }

    /**
     * Node 3 is apart till round 29; then rule B brings it from round 0 to 29, at the second node's message. Rounds in
     * which it is the proposer (2, 6, .. 26) take 3 + r turns more, as the others wait for P: 119 turns in all.
     */
    private static void joinsTheLastRound() {
        RoundVotes x = fourNil();
        for (int k = 0; k < 6; k++) {
            x.sides(8, 100);
            x.turn(100);
        }
        x.sides(8, 99);
        turnTo(x, LAST_BEGINS + 119 + 1);
        CHECK.due("node(2, 1) in turn 701", x.node(2, 1), 29);
        CHECK.due("node(3, 1) in turn 701", x.node(3, 1), 0);
        CHECK.due("vote(3, 29, 2, 1) in turn 701", x.vote(3, 29, 2, 1), 0);
        x.turn(1);
        CHECK.due("node(3, 1) in turn 702", x.node(3, 1), 29);
        CHECK.due("node(3, 9) in turn 702", x.node(3, 9), 702 + 33);
    }

    /**
     * Node 3 gets no proposal of height 1 and is left there, while the others (node 0 weighs 2) go through rounds 0, 1
     * and 2 of height 2 with votes for NIL. It takes height 1 from them and goes to round 2 at once: not to round 1,
     * in which it is the proposer.
     */
    private static void ruleBTakesTheGreatest() {
        RoundVotes x = new RoundVotes(4, SEED);
        x.weight(0, 2);
        x.disturb(2, LOST, 0);
        x.turn(3);
        for (int i = 0; i < 3; i++) {
            x.behave(i, ALL_NIL);
        }
        x.turn(20);
        CHECK.due("node(0, 0) in turn 23", x.node(0, 0), 2);
        CHECK.due("node(0, 1) in turn 23", x.node(0, 1), 2);
        CHECK.due("node(3, 0) in turn 23", x.node(3, 0), 1);
        CHECK.due("catchUp(3)", x.catchUp(3), 1);
        CHECK.due("node(3, 1)", x.node(3, 1), 2);
        CHECK.due("vote(3, 1, 0, 1), heard of round 1", x.vote(3, 1, 0, 1), 0);
        CHECK.due("vote(3, 1, 1, 1), heard of round 1", x.vote(3, 1, 1, 1), 0);
        CHECK.due("vote(3, 1, 3, 0), not proposed", x.vote(3, 1, 3, 0), RoundVotes.NONE);
    }

    /**
     * Five nodes. The proposal of height 1 comes to node 0 in turn 22. Till then it keeps, of height 2, precommits of
     * the others for one value in round 0 and in round 1: in round 0 node 4 precommits for NIL, too, and that is what
     * nodes 1 to 3 get (copies 61 to 63 are lost); node 4 does not get all others' (copy 71 is lost).
     */
    private static void ruleATakesTheLeast() {
        RoundVotes x = new RoundVotes(5, SEED);
        int value = Check.own(SEED, 2, 2, 0);
        x.disturb(0, LATE, 20);
        for (int k : new int[] {61, 62, 63, 71}) {
            x.disturb(k, LOST, 0);
        }
        x.turn(5);
        x.behave(4, BOTH);
        x.turn(2);
        x.behave(4, 0);
        x.turn(14);
        CHECK.due("node(0, 0) in turn 21", x.node(0, 0), 1);
        for (int i = 1; i < 5; i++) {
            CHECK.due("decided(" + i + ", 2, 0)", x.decided(i, 2, 0), value);
            CHECK.due("decided(" + i + ", 2, 1)", x.decided(i, 2, 1), 1);
        }
        x.turn(1);
        CHECK.due("decided(0, 1, 1) in turn 22", x.decided(0, 1, 1), 0);
        CHECK.due("decided(0, 2, 0) in turn 22", x.decided(0, 2, 0), value);
        CHECK.due("decided(0, 2, 1) in turn 22", x.decided(0, 2, 1), 0);
        CHECK.due("decided(0, 2, 2) in turn 22", x.decided(0, 2, 2), 30);
        CHECK.due("node(0, 0) in turn 22", x.node(0, 0), 3);
    }

    /**
     * The same with node 3 left in height 1, the proposer of height 2, round 1: it keeps precommits of round 0 and, as it
     * does not propose, prevotes for NIL of round 1. It decides ahead of going to round 1, so it proposes nothing there:
     * all it sends in turn 22 are the proposal and the prevote of height 3.
     */
    private static void ruleAAheadOfB() {
        RoundVotes x = new RoundVotes(5, SEED);
        x.disturb(2, LATE, 20);
        for (int k : new int[] {60, 61, 62, 71}) {
            x.disturb(k, LOST, 0);
        }
        x.turn(5);
        x.behave(4, BOTH);
        x.turn(2);
        x.behave(4, 0);
        x.turn(14);
        CHECK.due("node(3, 0) in turn 21", x.node(3, 0), 1);
        CHECK.due("node(0, 0) in turn 21", x.node(0, 0), 2);
        CHECK.due("node(0, 1) in turn 21", x.node(0, 1), 1);
        int sent = x.node(3, 12);
        x.turn(1);
        CHECK.due("decided(3, 2, 0) in turn 22", x.decided(3, 2, 0), Check.own(SEED, 2, 2, 0));
        CHECK.due("decided(3, 2, 1) in turn 22", x.decided(3, 2, 1), 0);
        CHECK.due("decided(3, 2, 2) in turn 22", x.decided(3, 2, 2), 23);
        CHECK.due("node(3, 0) in turn 22", x.node(3, 0), 3);
        CHECK.due("node(3, 12) in turn 22", x.node(3, 12), sent + 8);
    }

    /** In round 1 a value is proposed as valid since round 0, the last that rule C takes there. */
    private static void ruleCTakesTheRoundBefore() {
        RoundVotes x = new RoundVotes(4, SEED);
        x.turn(2);
        x.behave(0, ALL_NIL);
        x.behave(3, ALL_NIL);
        x.turn(2);
        x.behave(0, 0);
        x.behave(3, 0);
        x.turn(4);
        CHECK.due("vote(1, 1, 2, 3)", x.vote(1, 1, 2, 3), 0);
        CHECK.due("vote(1, 1, 1, 1)", x.vote(1, 1, 1, 1), VALUE);
        CHECK.due("vote(0, 1, 0, 1)", x.vote(0, 1, 0, 1), VALUE);
    }

    /**
     * Node 3 is apart but for turns 7 and 27, in which node 2 begins round 1 and node 0 round 3, each alone: of two nodes
     * it has a message of a later round, but of one in each. Once node 1's of round 3 comes, in turn 29, it goes there.
     */
    private static void ruleBAsksEachRoundForItself() {
        RoundVotes x = fourNil();
        x.sides(8, 6);
        x.turn(7);
        x.sides(8, 19);
        x.turn(20);
        CHECK.due("node(0, 1) in turn 27", x.node(0, 1), 3);
        x.turn(1);
        CHECK.due("vote(3, 1, 2, 1) in turn 28", x.vote(3, 1, 2, 1), 0);
        CHECK.due("vote(3, 3, 0, 1) in turn 28", x.vote(3, 3, 0, 1), 0);
        CHECK.due("node(3, 1) in turn 28", x.node(3, 1), 0);
        x.turn(1);
        CHECK.due("vote(3, 3, 1, 1) in turn 29", x.vote(3, 3, 1, 1), 0);
        CHECK.due("node(3, 1) in turn 29", x.node(3, 1), 3);
    }

    /**
     * Node 4 of five does not get the proposal of height 1 (copy 3), and keeps what comes of height 2: votes for NIL in
     * round 0; in round 1 a proposal and precommits of the others for it (node 0 precommits NIL, too, which is what nodes
     * 1 to 3 have: copies 100 to 102 are lost, and copy 96 to node 0); in round 2, in which it is the proposer, prevotes.
     * It takes height 1 from them and decides height 2 as it begins round 0, so it proposes nothing in round 2.
     */
    private static void ruleAOfARoundAboveItsOwn() {
        RoundVotes x = new RoundVotes(5, SEED);
        x.disturb(3, LOST, 0);
        x.turn(3);
        for (int i = 0; i < 4; i++) {
            x.behave(i, ALL_NIL);
        }
        x.turn(6);
        for (int i = 0; i < 4; i++) {
            x.behave(i, 0);
        }
        x.turn(2);
        x.behave(0, BOTH);
        for (int k : new int[] {96, 100, 101, 102}) {
            x.disturb(k, LOST, 0);
        }
        x.turn(1);
        x.behave(0, 0);
        x.turn(12);
        CHECK.due("node(1, 0) in turn 24", x.node(1, 0), 2);
        CHECK.due("node(1, 1) in turn 24", x.node(1, 1), 2);
        CHECK.due("node(4, 0) in turn 24", x.node(4, 0), 1);
        int sent = x.node(4, 12);
        CHECK.due("catchUp(4)", x.catchUp(4), 1);
        CHECK.due("decided(4, 2, 0)", x.decided(4, 2, 0), Check.own(SEED, 3, 2, 1));
        CHECK.due("decided(4, 2, 1)", x.decided(4, 2, 1), 1);
        CHECK.due("decided(4, 2, 2)", x.decided(4, 2, 2), 15);
        CHECK.due("node(4, 0)", x.node(4, 0), 3);
        CHECK.due("node(4, 12), nothing was sent", x.node(4, 12), sent);
    }

    public static void main(String[] args) {
        lastRoundBegins();
        roundThirtyDoesNotBegin();
        lastRoundBeginsAgain();
        lastRoundDecides();
        timerVOfTheLastRound();
        timerPOfTheFirstRounds();
        joinsTheLastRound();
        ruleBTakesTheGreatest();
        ruleATakesTheLeast();
        ruleAAheadOfB();
        ruleCTakesTheRoundBefore();
        ruleBAsksEachRoundForItself();
        ruleAOfARoundAboveItsOwn();
        CHECK.finish();
    }
}
