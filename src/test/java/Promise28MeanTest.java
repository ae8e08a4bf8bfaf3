/** Promise 28: mean. */
public final class Promise28MeanTest {
    public static void main(String[] args) {
        Promise p = Promise.number(28);
        p.says("Their SUM through how many there are:", Promise28MeanTest::underTheMask);
        p.says("the greatest whole number not above (what 0),", Promise28MeanTest::notAbove);
        p.says("what is left (1).", Promise28MeanTest::whatIsLeft);
        p.says("(However great the SUM.)", Promise28MeanTest::howeverGreat);
        p.says("IndexOutOfBoundsException;", Promise28MeanTest::noSuchColumnOrMask);
        p.says("IllegalArgumentException: what;", Promise28MeanTest::noSuchWhat);
        p.says("IllegalStateException: there are none.", Promise28MeanTest::thereAreNone);
        p.says("IllegalStateException: there are none.", Promise28MeanTest::noSuchWhatComesFirst);
        p.end();
    }

    private static void underTheMask() {
        Run.table("8: 5 - 6 -18 0", "8: 7 7 7 7 7").call("mask(1, 2, 0, 3)").due("mean(0, 1, 0)", 5)
                .due("mean(0, 1, 1)", 1).due("mean(1, 1, 0)", 7).due("mean(1, 1, 1)", 0).call("mask(1, 2, 0, 1)")
                .due("mean(0, 1, 0)", 5).due("mean(0, 1, 1)", 0);
        Run.ramp().due("mean(0, 0, 0)", 95).due("mean(0, 0, 1)", 96);
    }

    private static void notAbove() {
        Run.table("8: 5 - 6 -18 0").due("mean(0, 0, 0)", -2);
        Run.table("8: -1 0").due("mean(0, 0, 0)", -1);
        Run.table("8: 1 0").due("mean(0, 0, 0)", 0);
        Run.table("8: -1 1").due("mean(0, 0, 0)", 0);
        Run.table("8: -2 -2 -2").due("mean(0, 0, 0)", -2);
        Run.table("8: -2 -2 -3").due("mean(0, 0, 0)", -3);
    }

    private static void whatIsLeft() {
        Run.table("8: 5 - 6 -18 0").due("mean(0, 0, 1)", 1);
        Run.table("8: -1 0").due("mean(0, 0, 1)", 1);
        Run.table("8: 1 0").due("mean(0, 0, 1)", 1);
        Run.table("8: -1 1").due("mean(0, 0, 1)", 0);
        Run.table("8: -2 -2 -3").due("mean(0, 0, 1)", 2);
    }

    private static void howeverGreat() {
        Run.full(1, 63, Run.MOST).due("mean(0, 0, 0)", Run.MOST).due("mean(0, 0, 1)", 0)
                .call("set(0, 100, " + (Run.MOST - 1) + ")").due("mean(0, 0, 0)", Run.MOST - 1)
                .due("mean(0, 0, 1)", 191);
        Run.full(1, 63, Run.LEAST).due("mean(0, 0, 0)", Run.LEAST).due("mean(0, 0, 1)", 0)
                .call("set(0, 3, " + (Run.LEAST + 191) + ")").due("mean(0, 0, 0)", Run.LEAST)
                .due("mean(0, 0, 1)", 191);
        Run.table("63: MOST MOST 2").due("mean(0, 0, 0)", Long.MAX_VALUE / 3).due("mean(0, 0, 1)", 2);
        Run.table("63: LEAST LEAST -1").due("mean(0, 0, 0)", Long.MIN_VALUE / 3 - 1).due("mean(0, 0, 1)", 0);
    }

    private static void noSuchColumnOrMask() {
        Run.table("8: 1").noColumn("mean(%, 0, 0)").noMask("mean(0, %, 0)").noColumn("mean(%, 0, 2)")
                .noMask("mean(0, %, -1)").noColumn("mean(%, 7, 0)");
        Run.table("8:").noColumn("mean(%, 0, 0)").noMask("mean(0, %, 0)");
    }

    private static void noSuchWhat() {
        Run.table("8: 1").noNumber("mean(0, 0, %)", "-1", "2", "MIN", "MAX");
    }

    private static void thereAreNone() {
        Run.table("8: 1 -").refused("mean(0, 7, 0)", Run.STATE).refused("mean(0, 7, 1)", Run.STATE)
                .call("mask(1, 2, 1, 2)").refused("mean(0, 1, 0)", Run.STATE).due("mean(0, 0, 0)", 1);
        Run.table("8:").refused("mean(0, 0, 0)", Run.STATE).refused("mean(0, 0, 1)", Run.STATE);
    }

    private static void noSuchWhatComesFirst() {
        Run.table("8: 1").noNumber("mean(0, 7, %)", "-1", "2", "MIN", "MAX");
        Run.table("8:").noNumber("mean(0, 0, %)", "-1", "2");
    }
}
