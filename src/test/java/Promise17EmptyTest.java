/** Promise 17: empty. */
public final class Promise17EmptyTest {
    public static void main(String[] args) {
        Promise p = Promise.number(17);
        p.says("A MASK becomes those under a MASK", Promise17EmptyTest::underTheMask);
        p.says("that are EMPTY in a COLUMN:", Promise17EmptyTest::emptyInTheColumn);
        p.says("how many.", Promise17EmptyTest::noneAndAll);
        p.says("IndexOutOfBoundsException.", Promise17EmptyTest::noSuchColumnOrMask);
        p.end();
    }

    private static void underTheMask() {
        Run.table("8: 5 - 0 - -").call("mask(1, 2, 0, 4)").due("empty(2, 0, 1)", 2).mask(2, "1 3").mask(1, "0 1 2 3")
                .due("empty(2, 0, 7)", 0).mask(2, "");
    }

    private static void emptyInTheColumn() {
        Run.table("8: 5 - 0 - -", "63: - LEAST - -1 0").due("empty(1, 0, 0)", 3).mask(1, "1 3 4")
                .due("empty(1, 1, 0)", 2).mask(1, "0 2").call("set(1, 0, 0)").call("clear(1, 4)")
                .due("empty(1, 1, 0)", 2).mask(1, "2 4");
    }

    private static void noneAndAll() {
        Run.table("8:").due("empty(1, 0, 0)", 0);
        Run.full(6, 8, 0).due("empty(1, 5, 0)", 0).call("wipe(5, 0)").due("empty(1, 5, 0)", 192)
                .due("empty(1, 4, 0)", 0).call("clear(4, 191)").due("empty(1, 4, 0)", 1).mask(1, "191");
    }

    private static void noSuchColumnOrMask() {
        Run.table("8: 1 -").noMask("empty(%, 0, 0)").noColumn("empty(0, %, 0)").noMask("empty(0, 0, %)")
                .due("empty(7, 0, 0)", 1);
        new Run().noColumn("empty(0, %, 0)");
    }
}
