/** Counts the answers that are not as due; a test ends with exit code 1 if there was one. */
final class Check {
    private int wrong;
    private int asked;

    void due(String call, int got, int want) {
        asked++;
        if (got != want) {
            wrong++;
            System.out.println(call + " answered " + got + ", due is " + want);
        }
    }

    /** The own value of a node for a height and a round, by the document's formula. */
    static int own(int seed, int node, int height, int round) {
        return 2 + 2 * ((seed ^ (7919 * node) ^ (104729 * height) ^ (1299709 * round)) & ((1 << 20) - 1));
    }

    boolean hasWrong() {
        return wrong > 0;
    }

    void finish() {
        System.out.println(wrong == 0 ? asked + " answers are as due" : wrong + " answers are not as due");
        if (wrong != 0) {
            System.exit(1);
        }
    }
}
