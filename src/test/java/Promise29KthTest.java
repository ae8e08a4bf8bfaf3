/** Promise 29: kth. */
public final class Promise29KthTest {
    public static void main(String[] args) {
        Promise p = Promise.number(29);
        p.says("The k-th least of them (0 the least;", Promise29KthTest::fromTheLeast);
        p.says("k below 0: the greatest is -1, and so on down).", Promise29KthTest::fromTheGreatest);
        p.says("The k-th least of them", Promise29KthTest::underTheMask);
        p.says("NOTHING: there is none such.", Promise29KthTest::noneSuch);
        p.says("IndexOutOfBoundsException.", Promise29KthTest::noSuchColumnOrMask);
        p.end();
    }

    private static void fromTheLeast() {
        Run.table("63: 5 - -3 5 MOST LEAST").due("kth(0, 0, 0)", Run.LEAST).due("kth(0, 0, 1)", -3)
                .due("kth(0, 0, 2)", 5).due("kth(0, 0, 3)", 5).due("kth(0, 0, 4)", Run.MOST);
        Run.ramp().call("reverse()").due("kth(0, 0, 0)", 0).due("kth(0, 0, 64)", 64).due("kth(0, 0, 191)", 191);
    }

    private static void fromTheGreatest() {
        Run.table("63: 5 - -3 5 MOST LEAST").due("kth(0, 0, -1)", Run.MOST).due("kth(0, 0, -2)", 5)
                .due("kth(0, 0, -3)", 5).due("kth(0, 0, -4)", -3).due("kth(0, 0, -5)", Run.LEAST);
        Run.ramp().due("kth(0, 0, -1)", 191).due("kth(0, 0, -192)", 0);
    }

    private static void underTheMask() {
        Run.table("8: 9 4 -3 8", "8: 1 2 3 4").call("mask(1, 2, 1, 3)").due("kth(0, 1, 0)", -3).due("kth(0, 1, 1)", 4)
                .due("kth(0, 1, 2)", Run.NOTHING).due("kth(0, 1, -1)", 4).due("kth(1, 1, 0)", 2);
    }

    private static void noneSuch() {
        Run.table("8: 5 - -3").due("kth(0, 0, 2)", Run.NOTHING).due("kth(0, 0, -3)", Run.NOTHING)
                .due("kth(0, 0, MAX)", Run.NOTHING).due("kth(0, 0, MIN)", Run.NOTHING)
                .due("kth(0, 7, 0)", Run.NOTHING).due("kth(0, 7, -1)", Run.NOTHING);
        Run.table("8: - -").due("kth(0, 0, 0)", Run.NOTHING);
        Run.table("8:").due("kth(0, 0, 0)", Run.NOTHING).due("kth(0, 0, -1)", Run.NOTHING);
        Run.full(1, 8, 1).due("kth(0, 0, 192)", Run.NOTHING).due("kth(0, 0, -193)", Run.NOTHING);
    }

    private static void noSuchColumnOrMask() {
        Run.table("8: 1").noColumn("kth(%, 0, 0)").noMask("kth(0, %, 0)").noColumn("kth(%, 0, 99)");
        new Run().noColumn("kth(%, 0, 0)");
    }
}
