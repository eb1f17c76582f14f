import java.util.Random;

/**
 * Random runs of calls on RoundVotes and on the plain model, whose answers must be alike. All that can be asked is asked
 * behind each call: far more than the 512 calls that are promised, so that what differs shows at once; LongRunsTest keeps
 * to these.
 */
public final class RandomRunsTest {
    private static final int RUNS = 500;
    private static final int CALLS = 512;
    private final Check check = new Check();
    private final int run;
    private final Random random;
    private final RoundVotes x;
    private final PlainRoundVotes y;

    private RandomRunsTest(int run) {
        this.run = run;
        this.random = new Random(run);
        int n = run % 4 == 0 ? 4 : random.nextInt(13) - 1;
        int seed = random.nextInt();
        x = new RoundVotes(n, seed);
        y = new PlainRoundVotes(n, seed);
    }

    private void due(String call, int got, int want) {
        check.due("run " + run + ": " + call, got, want);
    }

    private int someNode() {
        return random.nextInt(40) == 0 ? random.nextInt(5) * 7 - 8 : random.nextInt(y.n);
    }

    private void someCall() {
        int a = someNode();
        int mostTurns = run % 3 == 0 ? 30 : 6;
        switch (random.nextInt(14)) {
            case 0 -> {
                int w = random.nextInt(30) == 0 ? random.nextInt(3) * 1_000_000 : 1 + random.nextInt(6);
                due("weight(" + a + ", " + w + ")", x.weight(a, w), y.weight(a, w));
            }
            case 1 -> {
                int b = random.nextInt(3) == 0 ? random.nextInt(8) - 1 : 0;
                due("behave(" + a + ", " + b + ")", x.behave(a, b), y.behave(a, b));
            }
            case 2, 3 -> {
                int k = y.gone + random.nextInt(50) - 2;
                int kind = random.nextInt(20) == 0 ? random.nextInt(5) - 1 : random.nextInt(3);
                int by = random.nextInt(24) - 1;
                due("disturb(" + k + ", " + kind + ", " + by + ")", x.disturb(k, kind, by), y.disturb(k, kind, by));
            }
            case 4 -> {
                int bits = random.nextInt(4) == 0 ? random.nextInt() : 0;
                int turns = random.nextInt(30) == 0 ? random.nextInt(104) - 1 : 1 + random.nextInt(15);
                due("sides(" + bits + ", " + turns + ")", x.sides(bits, turns), y.sides(bits, turns));
            }
            case 5 -> {
                int turns = random.nextInt(10) == 0 ? random.nextInt(54) - 1 : 1 + random.nextInt(8);
                due("cut(" + a + ", " + turns + ")", x.cut(a, turns), y.cut(a, turns));
            }
            case 6 -> due("catchUp(" + a + ")", x.catchUp(a), y.catchUp(a));
            default -> {
                int turns = random.nextInt(60) == 0 ? random.nextInt(104) - 1 : 1 + random.nextInt(mostTurns);
                due("turn(" + turns + ")", x.turn(turns), y.turn(turns));
            }
        }
    }

    private void compareNodes() {
        for (int i = -1; i <= y.n; i++) {
            for (int what = -1; what <= 13; what++) {
                due("node(" + i + ", " + what + ")", x.node(i, what), y.node(i, what));
            }
            due("against(" + i + ")", x.against(i), y.against(i));
        }
        for (int what = -1; what <= 9; what++) {
            due("count(" + what + ")", x.count(what), y.count(what));
        }
        due("evidence(-1, 0)", x.evidence(-1, 0), y.evidence(-1, 0));
    }

    private void compareVotes() {
        for (int i = 0; i < y.n; i++) {
            for (int round = -1; round <= 30; round++) {
                for (int sender = -1; sender <= y.n; sender++) {
                    for (int kind = -1; kind <= 4; kind++) {
                        String call = "vote(" + i + ", " + round + ", " + sender + ", " + kind + ")";
                        due(call, x.vote(i, round, sender, kind), y.vote(i, round, sender, kind));
                    }
                }
            }
        }
    }

    private void compareRecords() {
        for (int height = 0; height <= 41; height++) {
            due("unlike(" + height + ")", x.unlike(height), y.unlike(height));
            for (int i = -2; i <= y.n; i++) {
                due("weightOf(" + i + ", " + height + ")", x.weightOf(i, height), y.weightOf(i, height));
                for (int what = -1; what <= 4; what++) {
                    String call = "decided(" + i + ", " + height + ", " + what + ")";
                    due(call, x.decided(i, height, what), y.decided(i, height, what));
                }
            }
        }
        for (int k = -2; k <= y.evidence(-1, 0); k++) {
            for (int what = -1; what <= 6; what++) {
                due("evidence(" + k + ", " + what + ")", x.evidence(k, what), y.evidence(k, what));
            }
        }
    }

    private boolean isAlike() {
        for (int k = 0; k < CALLS && !check.hasWrong(); k++) {
            someCall();
            compareNodes();
            if (k % 32 == 0) {
                compareVotes();
            }
        }
        compareVotes();
        compareRecords();
        return !check.hasWrong();
    }

    public static void main(String[] args) {
        int runs = args.length > 0 ? Integer.parseInt(args[0]) : RUNS;
        for (int run = 0; run < runs; run++) {
            if (!new RandomRunsTest(run).isAlike()) {
                System.exit(1);
            }
        }
        System.out.println(runs + " random runs are alike");
    }
}
