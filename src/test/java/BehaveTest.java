/** Promise 3: behave, and what nodes of each behaviour do. Node 1 proposes in height 1, round 0. */
public final class BehaveTest {
    private static final Check CHECK = new Check();
    private static final int SEED = 7;
    private static final int VALUE = Check.own(SEED, 1, 1, 0);

    private static void answers() {
        RoundVotes x = new RoundVotes(4, SEED);
        for (int b = 1; b <= 5; b++) {
            CHECK.due("behave(2, " + b + ")", x.behave(2, b), b - 1);
            CHECK.due("node(2, 8)", x.node(2, 8), b);
        }
        CHECK.due("behave(2, 0)", x.behave(2, 0), 5);
        CHECK.due("behave(2, -1)", x.behave(2, -1), RoundVotes.BAD);
        CHECK.due("behave(2, 6)", x.behave(2, 6), RoundVotes.BAD);
        CHECK.due("behave(-1, 0)", x.behave(-1, 0), RoundVotes.BAD);
        CHECK.due("behave(4, 0)", x.behave(4, 0), RoundVotes.BAD);
        CHECK.due("node(2, 8)", x.node(2, 8), 0);
    }

    private static void silent() {
        RoundVotes x = new RoundVotes(4, SEED);
        x.behave(1, 1);
        x.turn(2);
        CHECK.due("silent: node(1, 12)", x.node(1, 12), 0);
        CHECK.due("silent: count(1)", x.count(1), 0);
        CHECK.due("silent: vote(1, 0, 1, 0)", x.vote(1, 0, 1, 0), VALUE);
        CHECK.due("silent: vote(1, 0, 1, 1)", x.vote(1, 0, 1, 1), VALUE);
        CHECK.due("silent: vote(0, 0, 1, 0)", x.vote(0, 0, 1, 0), RoundVotes.NONE);
        CHECK.due("silent: against(1)", x.against(1), 0);
    }

    private static void twoFaced() {
        RoundVotes x = new RoundVotes(4, SEED);
        x.behave(1, 2);
        x.turn(2);
        CHECK.due("two-faced: vote(0, 0, 1, 0)", x.vote(0, 0, 1, 0), VALUE);
        CHECK.due("two-faced: vote(3, 0, 1, 0)", x.vote(3, 0, 1, 0), VALUE + 1);
        CHECK.due("two-faced: vote(2, 0, 1, 1)", x.vote(2, 0, 1, 1), VALUE);
        CHECK.due("two-faced: vote(3, 0, 1, 1)", x.vote(3, 0, 1, 1), 0);
        CHECK.due("two-faced: vote(1, 0, 1, 0)", x.vote(1, 0, 1, 0), VALUE);
        CHECK.due("two-faced: vote(1, 0, 1, 1)", x.vote(1, 0, 1, 1), VALUE);
        CHECK.due("two-faced: evidence(-1, 0)", x.evidence(-1, 0), 0);
        CHECK.due("two-faced: against(1)", x.against(1), 2);
    }

    private static void twoFacedNil() {
        RoundVotes x = new RoundVotes(4, SEED);
        x.behave(1, 1);
        x.behave(0, 2);
        x.turn(6);
        CHECK.due("two-faced, NIL: vote(0, 0, 0, 1)", x.vote(0, 0, 0, 1), 0);
        CHECK.due("two-faced, NIL: vote(1, 0, 0, 1)", x.vote(1, 0, 0, 1), 1);
        CHECK.due("two-faced, NIL: vote(2, 0, 0, 1)", x.vote(2, 0, 0, 1), 0);
        CHECK.due("two-faced, NIL: vote(3, 0, 0, 1)", x.vote(3, 0, 0, 1), 1);
    }

    private static void both() {
        RoundVotes x = new RoundVotes(4, SEED);
        x.behave(1, 3);
        x.turn(1);
        CHECK.due("both: node(1, 12)", x.node(1, 12), 12);
        CHECK.due("both: against(1)", x.against(1), 2);
        CHECK.due("both: evidence(-1, 0)", x.evidence(-1, 0), 0);
        x.turn(1);
        CHECK.due("both: vote(0, 0, 1, 0)", x.vote(0, 0, 1, 0), VALUE);
        CHECK.due("both: vote(3, 0, 1, 0)", x.vote(3, 0, 1, 0), VALUE);
        CHECK.due("both: vote(3, 0, 1, 1)", x.vote(3, 0, 1, 1), VALUE);
        CHECK.due("both: evidence(-1, 0)", x.evidence(-1, 0), 2);
    }

    /** The first copies of the first message lost, the second message's stand. */
    private static void bothSendsOneBehindTheOther() {
        RoundVotes x = new RoundVotes(4, SEED);
        x.behave(1, 3);
        x.disturb(0, 0, 0);
        x.disturb(7, 0, 0);
        x.turn(2);
        CHECK.due("both: vote(0, 0, 1, 0), copy 0 lost", x.vote(0, 0, 1, 0), VALUE + 1);
        CHECK.due("both: vote(2, 0, 1, 0)", x.vote(2, 0, 1, 0), VALUE);
        CHECK.due("both: vote(2, 0, 1, 1), copy 7 lost", x.vote(2, 0, 1, 1), 0);
        CHECK.due("both: vote(3, 0, 1, 1)", x.vote(3, 0, 1, 1), VALUE);
    }

    /** Node 0 prevotes NIL as the proposal is late, is cut, comes back, and gets the proposal. */
    private static RoundVotes lateProposal(int behaviour) {
        RoundVotes x = new RoundVotes(4, SEED);
        x.behave(0, behaviour);
        x.behave(2, 1);
        x.behave(3, 1);
        x.disturb(0, 2, 10);
        x.turn(6);
        x.cut(0, 3);
        x.turn(4);
        return x;
    }

    private static void forgetsWhatItSigned() {
        RoundVotes honest = lateProposal(0);
        CHECK.due("as told: vote(0, 0, 0, 1) in turn 10", honest.vote(0, 0, 0, 1), 0);
        honest.turn(3);
        CHECK.due("as told: vote(0, 0, 0, 1)", honest.vote(0, 0, 0, 1), 0);
        CHECK.due("as told: node(0, 2)", honest.node(0, 2), 1);
        CHECK.due("as told: evidence(-1, 0)", honest.evidence(-1, 0), 0);
        CHECK.due("as told: against(0)", honest.against(0), 0);
        CHECK.due("as told: node(0, 12)", honest.node(0, 12), 6);

        RoundVotes forgetful = lateProposal(4);
        CHECK.due("forgetful: vote(0, 0, 0, 1) in turn 10", forgetful.vote(0, 0, 0, 1), RoundVotes.NONE);
        forgetful.turn(3);
        CHECK.due("forgetful: vote(0, 0, 0, 1)", forgetful.vote(0, 0, 0, 1), VALUE);
        CHECK.due("forgetful: vote(1, 0, 0, 1)", forgetful.vote(1, 0, 0, 1), 0);
        CHECK.due("forgetful: evidence(-1, 0)", forgetful.evidence(-1, 0), 1);
        CHECK.due("forgetful: evidence(0, 0)", forgetful.evidence(0, 0), 0);
        CHECK.due("forgetful: evidence(0, 3)", forgetful.evidence(0, 3), 1);
        CHECK.due("forgetful: evidence(0, 4)", forgetful.evidence(0, 4), 1);
        CHECK.due("forgetful: evidence(0, 5)", forgetful.evidence(0, 5), 13);
        CHECK.due("forgetful: against(0)", forgetful.against(0), 1);
    }

    private static void allNil() {
        RoundVotes x = new RoundVotes(4, SEED);
        x.behave(0, 5);
        x.turn(3);
        CHECK.due("nil: vote(0, 0, 0, 1)", x.vote(0, 0, 0, 1), 0);
        CHECK.due("nil: vote(1, 0, 0, 1)", x.vote(1, 0, 0, 1), 0);
        CHECK.due("nil: vote(0, 0, 0, 2)", x.vote(0, 0, 0, 2), 0);
        CHECK.due("nil: node(0, 3)", x.node(0, 3), VALUE);
        CHECK.due("nil: node(0, 4)", x.node(0, 4), 0);
        CHECK.due("nil: node(0, 5)", x.node(0, 5), VALUE);
        x.turn(1);
        CHECK.due("nil: decided(2, 1, 2)", x.decided(2, 1, 2), 14);
    }

    /** Node 0 prevoted the value in turn 2; back in turn 4 it is NIL, but sends what it signed: node 1 had forgotten it. */
    private static void nilSendsWhatItSigned() {
        RoundVotes x = new RoundVotes(4, SEED);
        x.behave(2, 1);
        x.behave(3, 1);
        x.turn(2);
        x.behave(0, 5);
        x.cut(0, 1);
        x.cut(1, 2);
        x.turn(4);
        CHECK.due("nil: vote(1, 0, 0, 1) in turn 6", x.vote(1, 0, 0, 1), RoundVotes.NONE);
        x.turn(1);
        CHECK.due("nil: vote(1, 0, 0, 1) in turn 7", x.vote(1, 0, 0, 1), VALUE);
        CHECK.due("nil: against(0)", x.against(0), 0);
    }

    private static void nilProposesAsTold() {
        RoundVotes x = new RoundVotes(4, SEED);
        x.behave(1, 5);
        x.turn(2);
        CHECK.due("nil: vote(0, 0, 1, 0)", x.vote(0, 0, 1, 0), VALUE);
        CHECK.due("nil: vote(0, 0, 1, 1)", x.vote(0, 0, 1, 1), 0);
    }

    /**
     * Node 0 signed a prevote as told; forgetful by now, it does not ask for that as P ends in turn 9, and sends another
     * one. What it signed as told was kept, and is the first that counts for it.
     */
    private static void forgetfulAsksForNothingSigned() {
        RoundVotes x = new RoundVotes(4, SEED);
        x.behave(2, 1);
        x.behave(3, 1);
        x.turn(2);
        x.cut(0, 2);
        x.behave(0, 4);
        x.turn(6);
        CHECK.due("forgetful by now: node(0, 9) in turn 8", x.node(0, 9), 9);
        CHECK.due("forgetful by now: vote(0, 0, 0, 1) in turn 8", x.vote(0, 0, 0, 1), VALUE);
        CHECK.due("forgetful by now: node(0, 12) in turn 8", x.node(0, 12), 3);
        x.turn(2);
        CHECK.due("forgetful by now: node(0, 12) in turn 10", x.node(0, 12), 6);
        CHECK.due("forgetful by now: vote(0, 0, 0, 1) in turn 10", x.vote(0, 0, 0, 1), VALUE);
        CHECK.due("forgetful by now: vote(1, 0, 0, 1) in turn 10", x.vote(1, 0, 0, 1), VALUE);
        CHECK.due("forgetful by now: against(0)", x.against(0), 1);
        CHECK.due("forgetful by now: evidence(-1, 0)", x.evidence(-1, 0), 1);
        CHECK.due("forgetful by now: evidence(0, 4)", x.evidence(0, 4), 1);
    }

    public static void main(String[] args) {
        answers();
        silent();
        twoFaced();
        twoFacedNil();
        both();
        bothSendsOneBehindTheOther();
        forgetsWhatItSigned();
        allNil();
        nilSendsWhatItSigned();
        nilProposesAsTold();
        forgetfulAsksForNothingSigned();
        CHECK.finish();
    }
}
