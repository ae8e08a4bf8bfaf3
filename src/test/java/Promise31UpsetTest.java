/** Promise 31: upset. */
public final class Promise31UpsetTest {
    public static void main(String[] args) {
        Promise p = Promise.number(31);
        p.says("How many couples of ROWS under a MASK", Promise31UpsetTest::underTheMask);
        p.says("have the greater number in the ROW that is ahead.", Promise31UpsetTest::greaterAhead);
        p.says("How many couples of ROWS under a MASK", Promise31UpsetTest::noneAndAll);
        p.says("IndexOutOfBoundsException.", Promise31UpsetTest::noSuchColumnOrMask);
        p.end();
    }

    private static void underTheMask() {
        Run.table("8: 3 1 - 2 2 0", "8: 6 5 4 3 2 1").due("upset(0, 0)", 7).call("mask(1, 2, 0, 4)")
                .due("upset(0, 1)", 2).due("upset(1, 1)", 6).due("upset(0, 7)", 0).column(0, "3 1 - 2 2 0");
    }

    private static void greaterAhead() {
        Run.table("63: LEAST MOST").due("upset(0, 0)", 0);
        Run.table("63: MOST LEAST").due("upset(0, 0)", 1);
        Run.table("8: 4 4 4").due("upset(0, 0)", 0);
        Run.table("8: 1 - 2 2 3 3").due("upset(0, 0)", 0);
        Run.table("8: 2 - - 1").due("upset(0, 0)", 1);
        Run.table("8: 5 4 4 3 5").due("upset(0, 0)", 5);
    }

    private static void noneAndAll() {
        Run.table("8: - -").due("upset(0, 0)", 0);
        Run.table("8: 5").due("upset(0, 0)", 0);
        Run.table("8:").due("upset(0, 0)", 0);
        Run.ramp().due("upset(0, 0)", 0).call("reverse()").due("upset(0, 0)", 192 * 191 / 2).due("get(0, 0)", 191);
        Run.full(1, 8, 3).due("upset(0, 0)", 0).call("set(0, 191, 2)").due("upset(0, 0)", 191);
    }

    private static void noSuchColumnOrMask() {
        Run.table("8: 1").noColumn("upset(%, 0)").noMask("upset(0, %)");
        new Run().noColumn("upset(%, 0)");
    }
}
