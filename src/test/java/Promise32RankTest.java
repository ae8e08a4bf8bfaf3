/** Promise 32: rank. */
public final class Promise32RankTest {
    public static void main(String[] args) {
        Promise p = Promise.number(32);
        p.says("How many of them are below v", () -> ofEach(0, 0, 1, 2, 4, 5));
        p.says("just v (1),", () -> ofEach(1, 1, 1, 2, 1, 0));
        p.says("above (2).", () -> ofEach(2, 4, 3, 1, 0, 0));
        p.says("(any long; what 0),", Promise32RankTest::edgesOfALong);
        p.says("How many of them are below v", Promise32RankTest::underTheMask);
        p.says("How many of them are below v", Promise32RankTest::noneAndAll);
        p.says("IndexOutOfBoundsException;", Promise32RankTest::noSuchColumnOrMask);
        p.says("IllegalArgumentException: what.", Promise32RankTest::noSuchWhat);
        p.end();
    }

    /** Of -128, -3, 5, 127 and of 128, which does not FIT. */
    private static void ofEach(int what, int... due) {
        Run run = Run.table("8: 5 - -3 5 127 -128");
        long[] numbers = {-128, -3, 5, 127, 128};
        for (int i = 0; i < due.length; i++) {
            run.due("rank(0, 0, " + numbers[i] + ", " + what + ")", due[i]);
        }
    }

    private static void edgesOfALong() {
        Run.table("63: LEAST - MOST 0").due("rank(0, 0, MIN, 0)", 0).due("rank(0, 0, MIN, 1)", 0)
                .due("rank(0, 0, MIN, 2)", 3).due("rank(0, 0, MAX, 0)", 3).due("rank(0, 0, MAX, 1)", 0)
                .due("rank(0, 0, MAX, 2)", 0).due("rank(0, 0, LEAST, 1)", 1).due("rank(0, 0, LEAST, 0)", 0)
                .due("rank(0, 0, MOST, 1)", 1).due("rank(0, 0, MOST, 2)", 0);
        // A v whose lowest bits alone are a number that is there.
        Run.table("2: 1 0 -2").due("rank(0, 0, 4294967297, 1)", 0).due("rank(0, 0, 4294967297, 0)", 3)
                .due("rank(0, 0, MIN, 1)", 0);
    }

    private static void underTheMask() {
        Run.table("8: 5 - -3 5 7", "8: 1 1 1 1 1").call("mask(1, 2, 0, 4)").due("rank(0, 1, 6, 0)", 3)
                .due("rank(0, 1, 5, 1)", 2).due("rank(0, 1, 5, 2)", 0).due("rank(1, 1, 1, 1)", 4);
    }

    private static void noneAndAll() {
        for (int what = 0; what < 3; what++) {
            Run.table("8: 1 -").due("rank(0, 7, 1, " + what + ")", 0);
            Run.table("8: - -").due("rank(0, 0, 1, " + what + ")", 0).due("rank(0, 0, NOTHING, " + what + ")", 0);
            Run.table("8:").due("rank(0, 0, 1, " + what + ")", 0);
            Run.full(1, 8, 1).due("rank(0, 0, " + (2 - what) + ", " + what + ")", 192);
        }
    }

    private static void noSuchColumnOrMask() {
        Run.table("8: 1").noColumn("rank(%, 0, 0, 0)").noMask("rank(0, %, 0, 0)").noColumn("rank(%, 0, 0, 3)")
                .noMask("rank(0, %, 0, -1)");
        new Run().noColumn("rank(%, 0, 0, 0)");
    }

    private static void noSuchWhat() {
        Run.table("8: 1").noNumber("rank(0, 0, 0, %)", "-1", "3", "MIN", "MAX")
                .noNumber("rank(0, 7, 0, %)", "-1", "3");
    }
}
