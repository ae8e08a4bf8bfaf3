/** Promise 6: clear. */
public final class Promise06ClearTest {
    public static void main(String[] args) {
        Promise p = Promise.number(6);
        p.says("A CELL becomes EMPTY:", Promise06ClearTest::aCellBecomesEmpty);
        p.says("1 if it had a number, else 0.", Promise06ClearTest::whetherItHadANumber);
        p.says("IndexOutOfBoundsException.", Promise06ClearTest::noSuchCell);
        p.end();
    }

    private static void aCellBecomesEmpty() {
        Run.table("8: 1 - 3", "8: 4 5 6").due("clear(0, 0)", 1).column(0, "- - 3").column(1, "4 5 6")
                .mask(0, "0 1 2").due("has(0)", 3);
        Run.full(6, 63, -1).due("clear(0, 0)", 1).due("clear(5, 191)", 1).due("has(3)", 2)
                .due("get(0, 0)", Run.NOTHING).due("get(5, 191)", Run.NOTHING).due("get(5, 190)", -1);
    }

    private static void whetherItHadANumber() {
        Run.table("2: 0 -").due("clear(0, 0)", 1).due("clear(0, 0)", 0).due("clear(0, 1)", 0).due("set(0, 1, -2)", 1)
                .due("clear(0, 1)", 1);
        Run.table("2: 1 -", "2: - 1").due("clear(1, 0)", 0).due("clear(1, 1)", 1).column(0, "1 -").column(1, "- -");
    }

    private static void noSuchCell() {
        Run.table("8: 1 -", "9: 2 3").noColumn("clear(%, 0)").noRow("clear(0, %)").noRow("clear(2, %)");
        new Run().noColumn("clear(%, 0)");
        Run.table("8:").noRow("clear(0, %)");
        Run.full(6, 8, 0).noColumn("clear(%, 191)").noRow("clear(5, %)");
    }
}
