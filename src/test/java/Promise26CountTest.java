/** Promise 26: count. */
public final class Promise26CountTest {
    public static void main(String[] args) {
        Promise p = Promise.number(26);
        p.says("How many numbers there are.", Promise26CountTest::underTheMask);
        p.says("How many numbers there are.", Promise26CountTest::noneAndAll);
        p.says("IndexOutOfBoundsException.", Promise26CountTest::noSuchColumnOrMask);
        p.end();
    }

    private static void underTheMask() {
        Run.table("8: 5 - 0 -3", "8: - 1 - -").call("mask(1, 2, 0, 3)").due("count(0, 0)", 3).due("count(0, 1)", 2)
                .due("count(1, 0)", 1).due("count(1, 1)", 1);
    }

    private static void noneAndAll() {
        Run.table("8: 5 - 0").due("count(0, 7)", 0);
        Run.table("8: - - -").due("count(0, 0)", 0);
        Run.table("8:").due("count(0, 0)", 0);
        Run.full(6, 63, -1).due("count(0, 0)", 192).due("count(5, 0)", 192).call("clear(5, 0)").call("clear(5, 191)")
                .due("count(5, 0)", 190);
    }

    private static void noSuchColumnOrMask() {
        Run.table("8: 1", "9: 1").noColumn("count(%, 0)").noMask("count(0, %)").noMask("count(2, %)");
        new Run().noColumn("count(%, 0)");
    }
}
