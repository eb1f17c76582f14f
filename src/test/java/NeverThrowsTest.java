/** No call throws, whatever its arguments, in any state; and wrong arguments change nothing. */
public final class NeverThrowsTest {
    private static final int[] ODD = {Integer.MIN_VALUE, Integer.MIN_VALUE + 1, -1_000_000, -11, -10, -3, -2, -1, 0, 1, 2, 5, 9, 10,
        11, 12, 13, 29, 30, 31, 40, 41, 60, 100, 101, 200, 1_000_000, 1_000_001, Integer.MAX_VALUE - 1, Integer.MAX_VALUE};
    private static final Check CHECK = new Check();

    private static void askAll(RoundVotes x) {
        for (int a : ODD) {
            x.unlike(a);
            x.against(a);
            x.count(a);
            for (int b : ODD) {
                x.node(a, b);
                x.evidence(a, b);
                x.weightOf(a, b);
                for (int c : ODD) {
                    x.decided(a, b, c);
                    for (int d : ODD) {
                        x.vote(a, b, c, d);
                    }
                }
            }
        }
    }

    private static void tellAll(RoundVotes x) {
        for (int a : ODD) {
            x.catchUp(a);
            x.turn(a);
            for (int b : ODD) {
                x.weight(a, b);
                x.behave(a, b);
                x.sides(a, b);
                x.cut(a, b);
                for (int c : ODD) {
                    x.disturb(a, b, c);
                }
            }
        }
    }

    public static void main(String[] args) {
        for (int n : ODD) {
            RoundVotes x = new RoundVotes(n, n);
            tellAll(x);
            CHECK.due("count(6) of " + n, x.count(6), n < 1 ? 1 : n > 10 ? 10 : n);
        }
        for (int n : new int[] {1, 3, 10}) {
            RoundVotes x = new RoundVotes(n, 1);
            askAll(x);
            tellAll(x);
            askAll(x);
            tellAll(x);
            askAll(x);
        }
        CHECK.finish();
    }
}
