import java.lang.reflect.Field;

/**
 * A copy is LOST when 6,000 are under way, second ones too. No run of calls is known to bring so many under way (nodes
 * send some hundred copies a turn), so the number of those under way is set from outside, as if others were.
 * In turn 1 node 1 of four sends six copies.
 */
public final class UnderWayTest {
    private static final Check CHECK = new Check();
    private static final int DOUBLED = 1;

    private static RoundVotes withUnderWay(int others) throws ReflectiveOperationException {
        RoundVotes x = new RoundVotes(4, 7);
        Field mail = RoundVotes.class.getDeclaredField("mail");
        mail.setAccessible(true);
        Object held = mail.get(x);
        Field underWay = held.getClass().getDeclaredField("underWay");
        underWay.setAccessible(true);
        underWay.setInt(held, others);
        CHECK.due("count(4), others", x.count(4), others);
        return x;
    }

    private static void afterOneTurn(RoundVotes x, String of, int lost, int underWay) {
        x.turn(1);
        CHECK.due(of + ": count(1)", x.count(1), 6);
        CHECK.due(of + ": node(1, 12)", x.node(1, 12), 6);
        CHECK.due(of + ": count(3)", x.count(3), lost);
        CHECK.due(of + ": count(4)", x.count(4), underWay);
    }

    private static void lastThatGoesAndFirstThatIsLost() throws ReflectiveOperationException {
        afterOneTurn(withUnderWay(5_994), "5,994", 0, 6_000);
        afterOneTurn(withUnderWay(5_995), "5,995", 1, 6_000);
        RoundVotes one = withUnderWay(5_999);
        afterOneTurn(one, "5,999", 5, 6_000);
        one.turn(1);
        CHECK.due("5,999: vote(0, 0, 1, 0), copy 0 came", one.vote(0, 0, 1, 0), Check.own(7, 1, 1, 0));
        CHECK.due("5,999: vote(2, 0, 1, 0), copy 1 was lost", one.vote(2, 0, 1, 0), RoundVotes.NONE);
        RoundVotes none = withUnderWay(6_000);
        afterOneTurn(none, "6,000", 6, 6_000);
        none.turn(1);
        CHECK.due("6,000: count(2)", none.count(2), 0);
    }

    private static RoundVotes withFirstDoubled(int others) throws ReflectiveOperationException {
        RoundVotes x = withUnderWay(others);
        x.disturb(0, DOUBLED, 0);
        return x;
    }

    /** A second one counts as under way, and is lost like others. */
    private static void secondOnesToo() throws ReflectiveOperationException {
        afterOneTurn(withFirstDoubled(5_993), "5,993 and a second one", 0, 6_000);
        afterOneTurn(withFirstDoubled(5_994), "5,994 and a second one", 1, 6_000);
        RoundVotes both = withFirstDoubled(5_998);
        afterOneTurn(both, "5,998 and a second one", 5, 6_000);
        both.turn(2);
        CHECK.due("5,998 and a second one: count(2) is at least both", both.count(2) >= 2 ? 1 : 0, 1);
        RoundVotes firstAlone = withFirstDoubled(5_999);
        afterOneTurn(firstAlone, "5,999 and a second one", 6, 6_000);
        RoundVotes none = withFirstDoubled(6_000);
        afterOneTurn(none, "6,000 and a second one", 6, 6_000);
    }

    /** What is lost otherwise does not count as under way: copies 0 and 3 cross sides. */
    private static void lostOnesTakeNoRoom() throws ReflectiveOperationException {
        RoundVotes x = withUnderWay(5_996);
        x.sides(1, 1);
        afterOneTurn(x, "5,996 and sides", 2, 6_000);
    }

    /** What has come is no more under way: more than twice 6,000 copies go in a run, and none is lost. */
    private static void manyMayGoOneBehindTheOther() {
        RoundVotes x = new RoundVotes(10, 7);
        for (int i = 0; i < 10; i++) {
            x.behave(i, 3);
        }
        x.turn(100);
        x.turn(100);
        CHECK.due("count(5)", x.count(5), 40);
        CHECK.due("count(1) is above 12,000", x.count(1) > 12_000 ? 1 : 0, 1);
        CHECK.due("count(2)", x.count(2), x.count(1));
        CHECK.due("count(3)", x.count(3), 0);
        CHECK.due("count(4)", x.count(4), 0);
    }

    public static void main(String[] args) throws ReflectiveOperationException {
        lastThatGoesAndFirstThatIsLost();
        secondOnesToo();
        lostOnesTakeNoRoom();
        manyMayGoOneBehindTheOther();
        CHECK.finish();
    }
}
