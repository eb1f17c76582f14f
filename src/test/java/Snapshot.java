import java.util.Arrays;

/** What every asking call answers, to see whether another call has changed anything. */
final class Snapshot {
    private final int[] answers;

    Snapshot(RoundVotes x) {
        int n = x.count(6);
        int[] all = new int[20_000];
        int size = 0;
        for (int i = 0; i < n; i++) {
            for (int what = 0; what <= 12; what++) {
                all[size++] = x.node(i, what);
            }
            for (int round = 0; round < 30; round++) {
                for (int vote = 0; vote < 4 * n; vote++) {
                    all[size++] = x.vote(i, round, vote / 4, vote % 4);
                }
            }
            for (int decided = 0; decided < 4 * 40; decided++) {
                all[size++] = x.decided(i, 1 + decided / 4, decided % 4);
            }
            all[size++] = x.against(i);
        }
        for (int height = 1; height <= 40; height++) {
            all[size++] = x.unlike(height);
            for (int i = -1; i < n; i++) {
                all[size++] = x.weightOf(i, height);
            }
        }
        int evidence = x.evidence(-1, 0);
        for (int part = 0; part < 6 * evidence; part++) {
            all[size++] = x.evidence(part / 6, part % 6);
        }
        for (int what = 0; what <= 8; what++) {
            all[size++] = x.count(what);
        }
        answers = Arrays.copyOf(all, size);
    }

    boolean isOf(RoundVotes x) {
        return Arrays.equals(answers, new Snapshot(x).answers);
    }
}
