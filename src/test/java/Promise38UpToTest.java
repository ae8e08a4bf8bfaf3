/** Promise 38: upTo. */
public final class Promise38UpToTest {
    public static void main(String[] args) {
        Promise p = Promise.number(38);
        p.says("The SUM of those numbers under a MASK", Promise38UpToTest::underTheMask);
        p.says("that stand in ROWS up to a told one (itself, too).", Promise38UpToTest::itselfToo);
        p.says("that stand in ROWS up to a told one (itself, too).", Promise38UpToTest::firstAndLast);
        p.says("IndexOutOfBoundsException;", Promise38UpToTest::noSuchColumnRowOrMask);
        p.says("ArithmeticException.", Promise38UpToTest::noLong);
        p.end();
    }

    private static void underTheMask() {
        Run.table("8: 5 - -3 4", "8: 1 1 1 1").call("mask(1, 2, 1, 4)").due("upTo(0, 0, 1)", 0).due("upTo(0, 1, 1)", 0)
                .due("upTo(0, 2, 1)", -3).due("upTo(0, 3, 1)", 1).due("upTo(1, 3, 1)", 3).due("upTo(0, 3, 7)", 0);
    }

    private static void itselfToo() {
        Run.table("8: 5 - -3 4").due("upTo(0, 0, 0)", 5).due("upTo(0, 1, 0)", 5).due("upTo(0, 2, 0)", 2)
                .due("upTo(0, 3, 0)", 6);
        Run.table("8: - -").due("upTo(0, 1, 0)", 0);
    }

    private static void firstAndLast() {
        Run.ramp().due("upTo(0, 0, 0)", 0).due("upTo(0, 1, 0)", 1).due("upTo(0, 63, 0)", 63 * 32)
                .due("upTo(0, 64, 0)", 65 * 32).due("upTo(0, 190, 0)", 190 * 191 / 2).due("upTo(0, 191, 0)", 191 * 96);
    }

    private static void noSuchColumnRowOrMask() {
        Run.table("63: MOST MOST MOST").noColumn("upTo(%, 2, 0)").noRow("upTo(0, %, 0)").noMask("upTo(0, 2, %)");
        new Run().noColumn("upTo(%, 0, 0)");
        Run.table("8:").noRow("upTo(0, %, 0)");
        Run.full(1, 8, 1).noRow("upTo(0, %, 0)");
    }

    private static void noLong() {
        Run.table("63: MOST MOST 2 -1 -1").due("upTo(0, 1, 0)", Long.MAX_VALUE - 1)
                .refused("upTo(0, 2, 0)", Run.ARITHMETIC).due("upTo(0, 3, 0)", Long.MAX_VALUE);
        Run.table("63: LEAST LEAST -1 1").due("upTo(0, 1, 0)", Long.MIN_VALUE)
                .refused("upTo(0, 2, 0)", Run.ARITHMETIC).due("upTo(0, 3, 0)", Long.MIN_VALUE);
        Run.table("63: LEAST LEAST LEAST LEAST").due("upTo(0, 1, 0)", Long.MIN_VALUE)
                .refused("upTo(0, 3, 0)", Run.ARITHMETIC);
        Run.full(1, 63, Run.MOST).refused("upTo(0, 191, 0)", Run.ARITHMETIC).due("upTo(0, 0, 0)", Run.MOST);
    }
}
