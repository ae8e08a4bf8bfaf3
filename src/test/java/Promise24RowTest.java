/** Promise 24: row. */
public final class Promise24RowTest {
    public static void main(String[] args) {
        Promise p = Promise.number(24);
        p.says("How many ROWS a MASK has (k NONE),", Promise24RowTest::howMany);
        p.says("its k-th one, rising.", Promise24RowTest::rising);
        p.says("NONE: there is none such.", Promise24RowTest::noneSuch);
        p.says("IndexOutOfBoundsException: no such MASK.", Promise24RowTest::noSuchMask);
        p.end();
    }

    private static void howMany() {
        Run.rows(192).due("row(0, NONE)", 192).due("row(0, -1)", 192).due("row(7, NONE)", 0).call("mask(1, 2, 64, 65)")
                .due("row(1, NONE)", 1);
        new Run().due("row(0, NONE)", 0);
    }

    private static void rising() {
        Run.rows(192).call("bits(1, 0, 20)").call("bits(1, 2, MIN)").due("row(1, 0)", 2).due("row(1, 1)", 4)
                .due("row(1, 2)", 191).due("row(0, 0)", 0).due("row(0, 63)", 63).due("row(0, 64)", 64)
                .due("row(0, 191)", 191);
    }

    private static void noneSuch() {
        Run.rows(192).due("row(0, 192)", -1).due("row(0, -2)", -1).due("row(0, MIN)", -1).due("row(0, MAX)", -1)
                .due("row(7, 0)", -1).call("mask(1, 2, 5, 6)").due("row(1, 0)", 5).due("row(1, 1)", -1);
        new Run().due("row(0, 0)", -1);
    }

    private static void noSuchMask() {
        Run.rows(3).noMask("row(%, 0)").noMask("row(%, NONE)").noMask("row(%, 9)");
    }
}
