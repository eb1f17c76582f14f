import java.util.Random;

/**
 * One value a height, though some are faulty, messages are lost, late, doubled, sides cannot hear each other, and nodes are
 * cut and come back: where faulty nodes weigh less than a third, no two nodes decide unlike values, nothing is ever
 * evidence against a node that is as told, and such a node has sent nothing unlike. Runs of at most 512 calls.
 */
public final class AgreementTest {
    private static final Check CHECK = new Check();
    private static final int RUNS = 400;
    private static final int TELLING = 300;

    private final Random random;
    private final RoundVotes x;
    private final int n;
    private final boolean[] faulty;
    private final String of;

    private AgreementTest(int run) {
        random = new Random(run);
        n = 4 + random.nextInt(7);
        x = new RoundVotes(n, random.nextInt());
        faulty = new boolean[n];
        of = "run " + run + ": ";
        int most = (n - 1) / 3;
        for (int k = 0; k < most; k++) {
            faulty[random.nextInt(n)] = true;
        }
    }

    private void tell() {
        int i = random.nextInt(n);
        switch (random.nextInt(12)) {
            case 0 -> x.behave(i, faulty[i] ? 1 + random.nextInt(5) : 0);
            case 1 -> x.disturb(x.count(1) + random.nextInt(60), random.nextInt(3), 1 + random.nextInt(20));
            case 2 -> x.sides(random.nextInt(4) == 0 ? random.nextInt(1 << n) : 0, 1 + random.nextInt(8));
            case 3 -> x.cut(i, 1 + random.nextInt(6));
            case 4 -> x.catchUp(i);
            default -> x.turn(1 + random.nextInt(5));
        }
    }

    private int decidedHeights() {
        for (int k = 0; k < TELLING; k++) {
            tell();
        }
        for (int height = 1; height <= 40; height++) {
            CHECK.due(of + "unlike(" + height + ")", x.unlike(height), 0);
        }
        int pieces = x.evidence(-1, 0);
        for (int k = 0; k < pieces && k < 100; k++) {
            CHECK.due(of + "evidence(" + k + ", 0) is a faulty one", faulty[x.evidence(k, 0)] ? 1 : 0, 1);
        }
        for (int i = 0; i < n; i++) {
            if (!faulty[i]) {
                CHECK.due(of + "against(" + i + ")", x.against(i), 0);
            }
        }
        return x.count(5);
    }

    public static void main(String[] args) {
        int heights = 0;
        for (int run = 0; run < RUNS; run++) {
            heights += new AgreementTest(run).decidedHeights();
        }
        CHECK.due("many heights are decided", heights > 10 * RUNS ? 1 : 0, 1);
        System.out.println(heights + " heights");
        CHECK.finish();
    }
}
