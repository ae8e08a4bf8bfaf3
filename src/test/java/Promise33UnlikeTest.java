/** Promise 33: unlike. */
public final class Promise33UnlikeTest {
    public static void main(String[] args) {
        Promise p = Promise.number(33);
        p.says("How many unlike ones there are (what 0),", Promise33UnlikeTest::howManyUnlike);
        p.says("the one that is there most often,", Promise33UnlikeTest::mostOften);
        p.says("of like ones the least (1;", Promise33UnlikeTest::ofLikeOnesTheLeast);
        p.says("NOTHING without any),", Promise33UnlikeTest::nothingWithoutAny);
        p.says("how often (2).", Promise33UnlikeTest::howOften);
        p.says("How many unlike ones there are", Promise33UnlikeTest::underTheMask);
        p.says("IndexOutOfBoundsException;", Promise33UnlikeTest::noSuchColumnOrMask);
        p.says("IllegalArgumentException: what.", Promise33UnlikeTest::noSuchWhat);
        p.end();
    }

    private static void howManyUnlike() {
        Run.table("8: 5 - -3 5 7 -3 9").due("unlike(0, 0, 0)", 4);
        Run.table("63: LEAST MOST -1 0").due("unlike(0, 0, 0)", 4);
        Run.ramp().due("unlike(0, 0, 0)", 192).call("reverse()").due("unlike(0, 0, 0)", 192);
        Run.full(1, 8, 4).due("unlike(0, 0, 0)", 1).call("set(0, 100, 5)").due("unlike(0, 0, 0)", 2);
    }

    private static void mostOften() {
        Run.table("8: 5 5 -3 5 7 -3 9").due("unlike(0, 0, 1)", 5);
        Run.table("63: MOST LEAST MOST").due("unlike(0, 0, 1)", Run.MOST);
        Run.table("63: LEAST LEAST MOST").due("unlike(0, 0, 1)", Run.LEAST);
        Run.full(1, 8, 4).due("unlike(0, 0, 1)", 4);
        Run.table("8: - 3 - -").due("unlike(0, 0, 1)", 3);
    }

    private static void ofLikeOnesTheLeast() {
        Run.table("8: 5 - -3 5 7 -3 9").due("unlike(0, 0, 1)", -3);
        Run.table("63: MOST LEAST").due("unlike(0, 0, 1)", Run.LEAST);
        Run.ramp().due("unlike(0, 0, 1)", 0);
    }

    private static void nothingWithoutAny() {
        Run.table("8: 1 1").due("unlike(0, 7, 1)", Run.NOTHING).due("unlike(0, 7, 0)", 0).due("unlike(0, 7, 2)", 0);
        Run.table("8: - -").due("unlike(0, 0, 1)", Run.NOTHING).due("unlike(0, 0, 0)", 0).due("unlike(0, 0, 2)", 0);
        Run.table("8:").due("unlike(0, 0, 1)", Run.NOTHING).due("unlike(0, 0, 0)", 0).due("unlike(0, 0, 2)", 0);
    }

    private static void howOften() {
        Run.table("8: 5 5 -3 5 7 -3 9").due("unlike(0, 0, 2)", 3);
        Run.table("8: 5").due("unlike(0, 0, 2)", 1);
        Run.ramp().due("unlike(0, 0, 2)", 1);
        Run.full(1, 8, 4).due("unlike(0, 0, 2)", 192);
    }

    private static void underTheMask() {
        Run.table("8: 1 1 2 3", "8: 0 0 0 0").call("mask(1, 2, 1, 4)").due("unlike(0, 1, 0)", 3)
                .due("unlike(0, 1, 1)", 1).due("unlike(0, 1, 2)", 1).due("unlike(1, 1, 0)", 1)
                .due("unlike(1, 1, 2)", 3);
    }

    private static void noSuchColumnOrMask() {
        Run.table("8: 1").noColumn("unlike(%, 0, 0)").noMask("unlike(0, %, 0)").noColumn("unlike(%, 0, 3)")
                .noMask("unlike(0, %, -1)");
        new Run().noColumn("unlike(%, 0, 0)");
    }

    private static void noSuchWhat() {
        Run.table("8: 1").noNumber("unlike(0, 0, %)", "-1", "3", "MIN", "MAX").noNumber("unlike(0, 7, %)", "-1", "3");
    }
}
