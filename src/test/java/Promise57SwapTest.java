/** Promise 57: swap. */
public final class Promise57SwapTest {
    public static void main(String[] args) {
        Promise p = Promise.number(57);
        p.says("Two COLUMNS stand each where the other one stood:", Promise57SwapTest::eachWhereTheOtherStood);
        p.says("Two COLUMNS stand each where the other one stood:", Promise57SwapTest::firstAndLast);
        p.says("Two COLUMNS stand each where the other one stood:", Promise57SwapTest::withItself);
        p.says("the WIDTH of the one that stands at a then.", Promise57SwapTest::theWidthAtA);
        p.says("IndexOutOfBoundsException.", Promise57SwapTest::noSuchColumn);
        p.end();
    }

    private static Run two() {
        return Run.table("8: 3 1 - 2", "20: 10 - - 13").call("bits(1, 0, 5)");
    }

    private static void eachWhereTheOtherStood() {
        two().due("swap(0, 1)", 20).column(0, "10 - - 13").column(1, "3 1 - 2").due("width(0, 0)", 20)
                .due("width(1, 0)", 8).mask(0, "0 1 2 3").mask(1, "0 2").doesNotFit("set(1, 0, 128)")
                .due("set(0, 0, 128)", 0);
        two().call("swap(0, 1)").call("swap(0, 1)").like(two());
    }

    private static void firstAndLast() {
        Run run = Run.full(6, 8, 0);
        for (int c = 0; c < 6; c++) {
            run.call("fill(" + c + ", " + c + ", 0)").call("widen(" + c + ", " + (10 + c) + ")");
        }
        run.due("swap(0, 5)", 15).due("get(0, 0)", 5).due("get(0, 191)", 5).due("get(5, 0)", 0).due("get(5, 191)", 0)
                .due("width(5, 0)", 10);
        for (int c = 1; c < 5; c++) {
            run.due("get(" + c + ", 191)", c).due("width(" + c + ", 0)", 10 + c);
        }
    }

    private static void withItself() {
        two().due("swap(0, 0)", 8).due("swap(1, 1)", 20).like(two());
        Run.table("5:").due("swap(0, 0)", 5);
    }

    private static void theWidthAtA() {
        two().due("swap(0, 1)", 20).due("swap(0, 1)", 8).due("swap(1, 0)", 8).due("swap(1, 0)", 20);
        Run.table("2:", "63:").due("swap(0, 1)", 63).due("swap(0, 1)", 2);
    }

    private static void noSuchColumn() {
        two().noColumn("swap(%, 0)").noColumn("swap(0, %)").noColumn("swap(%, %)");
        new Run().noColumn("swap(%, %)");
        Run.full(6, 8, 0).noColumn("swap(%, 5)").noColumn("swap(5, %)");
    }
}
