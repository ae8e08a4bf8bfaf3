/** Promise 59: back. */
public final class Promise59BackTest {
    public static void main(String[] args) {
        Promise p = Promise.number(59);
        p.says("The table and all MASKS are as in IMAGE k,", Promise59BackTest::asInTheImage);
        p.says("The table and all MASKS are as in IMAGE k,", Promise59BackTest::nothingAndAll);
        p.says("The table and all MASKS are as in IMAGE k,", Promise59BackTest::noneOfWhatWasBefore);
        p.says("which stays:", Promise59BackTest::itStays);
        p.says("ROWS.", Promise59BackTest::howManyRows);
        p.says("IndexOutOfBoundsException;", Promise59BackTest::noSuchImage);
        p.says("IllegalStateException: it was not kept.", Promise59BackTest::notKept);
        p.end();
    }

    private static Run two() {
        return Run.table("8: 3 1 - 2", "20: 10 - - 13").call("bits(1, 0, 5)");
    }

    private static void asInTheImage() {
        two().call("keep(0)").call("drop(0)").call("rows(5)").call("turn(1, 1)").call("widen(0, 63)").call("back(0)")
                .like(two()).due("has(2)", 5).due("has(4)", 28).due("width(0, 2)", 3);
    }

    private static void nothingAndAll() {
        Run full = Run.full(6, 63, Run.LEAST).call("mask(7, 3, 3, 2)").call("set(5, 191, MOST)").call("clear(0, 0)");
        Run.full(6, 63, Run.LEAST).call("mask(7, 3, 3, 2)").call("set(5, 191, MOST)").call("clear(0, 0)")
                .call("keep(1)").call("remove(0)").call("drop(0)").call("drop(0)").call("drop(0)").call("drop(0)")
                .call("drop(0)").call("drop(0)").due("keep(0)", 0).due("back(1)", 192).like(full).due("back(0)", 0)
                .like(new Run()).due("back(1)", 192).like(full);
        new Run().call("keep(0)").call("column(8)").call("rows(3)").call("mask(0, 0, 0, 0)").due("back(0)", 0)
                .like(new Run()).due("column(9)", 0).due("rows(3)", 3).column(0, "- - -").mask(0, "");
    }

    /** Rows and columns that come behind back() are new ones, whatever stood there before. */
    private static void noneOfWhatWasBefore() {
        Run.table("8: 1").call("keep(0)").call("rows(2)").call("fill(0, 5, 0)").call("set(0, 2, 5)")
                .call("mask(0, 0, 0, 0)").call("column(8)").call("fill(1, 6, 0)").call("back(0)").call("rows(2)")
                .call("column(9)").column(0, "1 - -").column(1, "- - -").mask(0, "0");
    }

    private static void itStays() {
        two().call("keep(0)").call("wipe(0, 0)").call("back(0)").like(two()).call("wipe(1, 0)").call("turn(0, 0)")
                .call("back(0)").like(two()).call("remove(0)").call("back(0)").like(two()).call("back(0)").like(two());
    }

    private static void howManyRows() {
        two().call("keep(0)").call("rows(1)").due("back(0)", 4).call("remove(0)").due("back(0)", 4);
    }

    private static void noSuchImage() {
        two().noImage("back(%)").call("keep(0)").call("keep(1)").noImage("back(%)");
        new Run().noImage("back(%)");
    }

    private static void notKept() {
        new Run().refused("back(0)", Run.STATE).refused("back(1)", Run.STATE).call("keep(1)")
                .refused("back(0)", Run.STATE).due("back(1)", 0);
        two().refused("back(0)", Run.STATE).refused("back(1)", Run.STATE).call("keep(0)")
                .refused("back(1)", Run.STATE).due("back(0)", 4);
        // A refused keep() keeps nothing.
        two().refused("keep(2)", Run.INDEX).refused("back(0)", Run.STATE).refused("back(1)", Run.STATE);
    }
}
