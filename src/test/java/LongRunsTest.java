import java.util.Random;

/**
 * Runs of just 512 calls on one object, telling and asking, each answer compared with that of the plain model. Each run
 * has a manner, so that what is rare in one is common in another: the last heights, the last rounds, full rows, faulty
 * nodes, cuts, sides.
 */
public final class LongRunsTest {
    private static final int CALLS = 512;
    /** These last calls of a run only ask. */
    private static final int ASKING = 100;
    private static final int RUNS_OF_EACH = 60;
    private static final int FORGETFUL = 4, ALL_NIL = 5, BOTH = 3;
    private static final int LOST = 0, DOUBLED = 1, LATE = 2;

    /** How often, of a hundred telling calls, each kind is made; the rest are turns, so many at most in a call. */
    private enum Manner {
        CALM(4, 0, 0, 0, 0, 0, 6),
        WEIGHTY(25, 3, 5, 2, 2, 4, 3),
        FAULTY(2, 25, 5, 2, 5, 3, 6),
        LIARS(2, 10, 5, 1, 3, 2, 20),
        DISTURBED(2, 3, 60, 1, 2, 2, 4),
        SECOND_ONES(1, 4, 45, 1, 20, 1, 1),
        TORN(1, 6, 20, 1, 8, 6, 4),
        PARTED(2, 4, 6, 20, 6, 6, 4),
        CUT(2, 4, 6, 2, 25, 15, 4),
        LEFT_BEHIND(2, 4, 6, 2, 6, 12, 4),
        TO_THE_LAST_ROUND(1, 1, 4, 2, 4, 2, 60),
        TO_THE_LAST_HEIGHT(4, 2, 2, 1, 3, 6, 30);

        final int[] shares;
        final int mostTurns;

        Manner(int weight, int behave, int disturb, int sides, int cut, int catchUp, int mostTurns) {
            this.shares = new int[] {weight, behave, disturb, sides, cut, catchUp};
            this.mostTurns = mostTurns;
        }
    }

    private final Check check = new Check();
    private final Manner manner;
    private final int run;
    private final Random random;
    private final RoundVotes x;
    private final PlainRoundVotes y;
    private int calls;

    private LongRunsTest(Manner manner, int run) {
        this.manner = manner;
        this.run = run;
        this.random = new Random(1_000L * manner.ordinal() + run);
        int n = nodes();
        int seed = random.nextInt();
        x = new RoundVotes(n, seed);
        y = new PlainRoundVotes(n, seed);
    }

    private int nodes() {
        if (manner == Manner.TORN) {
            return run % 6 >= 4 ? 4 : 3;
        }
        if (manner == Manner.LEFT_BEHIND) {
            return run % 4 == 3 ? 4 : 5;
        }
        return run % 3 == 0 ? 4 : mostly(1, 10);
    }

    private void due(String call, int got, int want) {
        calls++;
        check.due(manner + " " + run + ", call " + calls + ": " + call, got, want);
    }

    private boolean chance(int ofAHundred) {
        return random.nextInt(100) < ofAHundred;
    }

    private int from(int first, int last) {
        return first + random.nextInt(last - first + 1);
    }

    /** Mostly inside, now and then at the edge, just outside, or far outside. */
    private int mostly(int first, int last) {
        if (!chance(3)) {
            return from(first, last);
        }
        int[] edges = {first, last, first - 1, last + 1, Integer.MIN_VALUE, Integer.MAX_VALUE};
        return edges[random.nextInt(edges.length)];
    }

    private int someNode() {
        return mostly(0, y.n - 1);
    }

    private void tell() {
        int at = random.nextInt(100);
        int kind = 0;
        while (kind < manner.shares.length && at >= manner.shares[kind]) {
            at -= manner.shares[kind];
            kind++;
        }
        switch (kind) {
            case 0 -> tellWeight(someNode(), chance(10) ? mostly(1, 1_000_000) : mostly(1, 5));
            case 1 -> tellBehaviour(manner == Manner.TORN ? 0 : someNode(), behaviour());
            case 2 -> tellAnyDisturbance();
            case 3 -> tellSides(chance(30) ? 0 : random.nextInt(), chance(10) ? mostly(1, 100) : mostly(1, 12));
            case 4 -> tellAnyCut();
            case 5 -> catchUp(someNode());
            default -> turn(mostly(1, manner.mostTurns));
        }
    }

    private int behaviour() {
        if (manner == Manner.LIARS) {
            return mostly(2, 4);
        }
        if (manner == Manner.TORN) {
            return from(BOTH, FORGETFUL);
        }
        return chance(40) ? 0 : mostly(0, 5);
    }

    /** Now and then all are cut at once, so that all come back in one turn; some of what they send in it is lost. */
    private void tellAnyCut() {
        int turns = cutTurns();
        if (manner != Manner.CUT || chance(80)) {
            tellCut(someNode(), turns);
            return;
        }
        for (int i = 0; i < y.n; i++) {
            tellCut(i, turns);
        }
        for (int k = 0; k < 4; k++) {
            tellDisturbance(y.gone + from(0, 4 * y.n), LOST, 0);
        }
    }

    private int cutTurns() {
        if (manner == Manner.SECOND_ONES || manner == Manner.TORN) {
            return mostly(1, 2);
        }
        return chance(10) ? mostly(1, 50) : mostly(1, 6);
    }

    private int kindOfDisturbance() {
        if (manner == Manner.SECOND_ONES) {
            return chance(80) ? DOUBLED : from(LOST, LATE);
        }
        if (manner == Manner.TORN) {
            return chance(50) ? LOST : LATE;
        }
        return mostly(LOST, LATE);
    }

    private void tellWeight(int node, int w) {
        due("weight(" + node + ", " + w + ")", x.weight(node, w), y.weight(node, w));
    }

    private void tellBehaviour(int node, int behaviour) {
        due("behave(" + node + ", " + behaviour + ")", x.behave(node, behaviour), y.behave(node, behaviour));
    }

    private void tellAnyDisturbance() {
        int far = chance(20) ? 2_000 : manner == Manner.TORN ? 12 : 60;
        int k = chance(3) ? mostly(0, 0) : y.gone + from(-1, far);
        int kind = kindOfDisturbance();
        int by = chance(30) ? mostly(1, 20) : mostly(1, 4);
        tellDisturbance(k, kind, by);
    }

    private void tellDisturbance(int k, int kind, int by) {
        due("disturb(" + k + ", " + kind + ", " + by + ")", x.disturb(k, kind, by), y.disturb(k, kind, by));
    }

    private void tellSides(int bits, int turns) {
        due("sides(" + bits + ", " + turns + ")", x.sides(bits, turns), y.sides(bits, turns));
    }

    private void tellCut(int node, int turns) {
        due("cut(" + node + ", " + turns + ")", x.cut(node, turns), y.cut(node, turns));
    }

    private void catchUp(int node) {
        due("catchUp(" + node + ")", x.catchUp(node), y.catchUp(node));
    }

    private void turn(int turns) {
        due("turn(" + turns + ")", x.turn(turns), y.turn(turns));
    }

    private void ask() {
        switch (random.nextInt(12)) {
            case 0, 1, 2 -> askNode(someNode(), mostly(0, 12));
            case 3, 4, 5 -> askVote(someNode());
            case 6 -> askDecided(someNode(), mostly(1, 40), mostly(0, 3));
            case 7 -> askCount(mostly(0, 8));
            case 8 -> askEvidence();
            case 9 -> askAgainst(someNode());
            case 10 -> askUnlike(chance(50) ? Math.max(1, y.count(5)) : mostly(1, 40));
            default -> askWeight(chance(30) ? -1 : someNode(), mostly(1, 40));
        }
    }

    private void askNode(int i, int what) {
        due("node(" + i + ", " + what + ")", x.node(i, what), y.node(i, what));
    }

    private void askVote(int i) {
        int round = chance(20) ? mostly(0, 29) : Math.max(0, y.node(i, 1) - random.nextInt(2));
        askVote(i, round, someNode(), mostly(0, 3));
    }

    private void askVote(int i, int round, int sender, int kind) {
        String call = "vote(" + i + ", " + round + ", " + sender + ", " + kind + ")";
        due(call, x.vote(i, round, sender, kind), y.vote(i, round, sender, kind));
    }

    private void askDecided(int i, int anyHeight, int what) {
        int height = chance(60) ? Math.max(1, y.node(i, 0) - from(1, 2)) : anyHeight;
        String call = "decided(" + i + ", " + height + ", " + what + ")";
        due(call, x.decided(i, height, what), y.decided(i, height, what));
    }

    private void askCount(int what) {
        due("count(" + what + ")", x.count(what), y.count(what));
    }

    private void askEvidence() {
        int size = y.evidence(-1, 0);
        int k = chance(30) ? -1 : mostly(0, size);
        int what = k == -1 ? mostly(0, 0) : mostly(0, 5);
        due("evidence(" + k + ", " + what + ")", x.evidence(k, what), y.evidence(k, what));
    }

    private void askAgainst(int node) {
        due("against(" + node + ")", x.against(node), y.against(node));
    }

    private void askUnlike(int height) {
        due("unlike(" + height + ")", x.unlike(height), y.unlike(height));
    }

    private void askWeight(int node, int height) {
        due("weightOf(" + node + ", " + height + ")", x.weightOf(node, height), y.weightOf(node, height));
    }

    /** What a manner needs ahead of the first turn. */
    private void prepare() {
        for (int i = 0; i < y.n; i++) {
            if (manner == Manner.LIARS && chance(60)) {
                tellBehaviour(i, BOTH);
            }
            if (manner == Manner.TO_THE_LAST_ROUND && chance(80)) {
                tellBehaviour(i, ALL_NIL);
            }
            if (manner == Manner.WEIGHTY) {
                tellWeight(i, from(1, 4));
            }
        }
        if (manner == Manner.SECOND_ONES && y.n > 1) {
            secondOneBehindALateOne();
        }
        if (manner == Manner.TORN) {
            tear();
            askSome();
        }
        if (manner == Manner.LEFT_BEHIND) {
            leaveBehind();
            askSome();
        }
    }

    private void askSome() {
        for (int k = 0; k < 60; k++) {
            ask();
        }
    }

    /** Node 1 proposes two values; of these a node that is cut in turn 2 gets the second one of the first, and the other late. */
    private void secondOneBehindALateOne() {
        int receiver = chance(50) ? 0 : y.n - 1;
        int others = y.n - 1;
        int first = receiver == 0 ? 0 : others - 1;
        tellBehaviour(1, BOTH);
        tellDisturbance(first, DOUBLED, 0);
        tellDisturbance(others + first, LATE, 1);
        turn(1);
        tellCut(receiver, 1);
        turn(2);
        askVote(receiver, 0, 1, 0);
    }

    /** Beginnings that chance does not bring about, as they need a forgetful node and just these copies lost. */
    private void tear() {
        switch (run % 6) {
            case 0 -> {
                weigh(5, 3, 3);
                loseAll(1, 3, 8, 9);
                turn(from(12, 16));
                askUnlike(1);
            }
            case 1 -> {
                weigh(3, 5, 3);
                loseAll(1, 6);
                tellDisturbance(9, LATE, 4);
                turn(from(13, 16));
                askUnlike(1);
            }
            case 2 -> {
                weigh(5, 3, 3);
                loseAll(1, 6, 8, 9, 16, 17);
                turn(23);
            }
            case 3 -> {
                weigh(5, 3, 3);
                twoLocksOfOneRound();
            }
            case 4 -> proposalOfItsOwnRound();
            default -> sameValueLockedLater();
        }
    }

    /** The one that weighs 5 is forgetful. */
    private void weigh(int... weights) {
        for (int i = 0; i < weights.length; i++) {
            tellWeight(i, weights[i]);
            if (weights[i] == 5) {
                tellBehaviour(i, FORGETFUL);
            }
        }
    }

    private void loseAll(int... numbers) {
        for (int k : numbers) {
            tellDisturbance(k, LOST, 0);
        }
    }

    private void twoLocksOfOneRound() {
        tellBehaviour(1, BOTH);
        loseAll(1, 9, 12, 13, 15, 18, 19, 20, 21);
        tellDisturbance(2, LATE, 4);
        tellDisturbance(10, LATE, 4);
        tellDisturbance(11, LATE, 20);
        tellDisturbance(14, LATE, 4);
        tellDisturbance(16, LATE, 16);
        tellDisturbance(25, LATE, 5);
        turn(1);
        tellBehaviour(1, 0);
        turn(2);
        tellCut(0, 1);
        turn(14);
        tellCut(1, 4);
        turn(6);
    }

    /** A node that is left in height 1 keeps precommits and messages of several rounds of height 2. */
    private void leaveBehind() {
        switch (run % 4) {
            case 0 -> {
                tellDisturbance(0, LATE, 20);
                loseAll(61, 62, 63, 71);
                tellTwoPrecommitsOfFour();
            }
            case 1 -> {
                tellDisturbance(2, LATE, 20);
                loseAll(60, 61, 62, 71);
                tellTwoPrecommitsOfFour();
            }
            case 2 -> decidedInALaterRound();
            default -> threeRoundsAhead();
        }
    }

    private void tellTwoPrecommitsOfFour() {
        turn(5);
        tellBehaviour(4, BOTH);
        turn(2);
        tellBehaviour(4, 0);
        turn(15);
    }

    private void decidedInALaterRound() {
        loseAll(3, 96, 100, 101, 102);
        turn(3);
        for (int i = 0; i < 4; i++) {
            tellBehaviour(i, ALL_NIL);
        }
        turn(6);
        for (int i = 0; i < 4; i++) {
            tellBehaviour(i, 0);
        }
        turn(2);
        tellBehaviour(0, BOTH);
        turn(1);
        tellBehaviour(0, 0);
        turn(12);
        catchUp(4);
    }

    private void threeRoundsAhead() {
        tellWeight(0, 2);
        loseAll(2);
        turn(3);
        for (int i = 0; i < 3; i++) {
            tellBehaviour(i, ALL_NIL);
        }
        turn(20);
        catchUp(3);
    }

    private void sameValueLockedLater() {
        loseAll(35, 38);
        turn(2);
        tellBehaviour(0, ALL_NIL);
        tellBehaviour(3, ALL_NIL);
        turn(2);
        tellBehaviour(0, 0);
        tellBehaviour(3, 0);
        turn(4);
        tellBehaviour(0, ALL_NIL);
        tellBehaviour(2, ALL_NIL);
        turn(7);
    }

    private void proposalOfItsOwnRound() {
        tellBehaviour(1, FORGETFUL);
        turn(3);
        for (int i = 0; i < 4; i++) {
            tellCut(i, i == 1 ? 2 : 1);
        }
        turn(from(3, 7));
    }

    private boolean isAlike() {
        prepare();
        while (calls < CALLS && !check.hasWrong()) {
            if (calls < CALLS - ASKING && chance(60)) {
                tell();
            } else {
                ask();
            }
        }
        return !check.hasWrong();
    }

    public static void main(String[] args) {
        int runs = args.length > 0 ? Integer.parseInt(args[0]) : RUNS_OF_EACH;
        for (Manner manner : Manner.values()) {
            for (int run = 0; run < runs; run++) {
                if (!new LongRunsTest(manner, run).isAlike()) {
                    System.exit(1);
                }
            }
        }
        System.out.println(runs * Manner.values().length + " runs of " + CALLS + " calls are alike");
    }
}
