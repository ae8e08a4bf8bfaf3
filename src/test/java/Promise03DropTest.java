/** Promise 3: drop. */
public final class Promise03DropTest {
    public static void main(String[] args) {
        Promise p = Promise.number(3);
        p.says("A COLUMN goes", Promise03DropTest::aColumnGoes);
        p.says("A COLUMN goes", Promise03DropTest::imagesStay);
        p.says("(those behind it are one less):", Promise03DropTest::thoseBehindAreOneLess);
        p.says("how many are left.", Promise03DropTest::howManyAreLeft);
        p.says("IndexOutOfBoundsException.", Promise03DropTest::noSuchColumn);
        p.end();
    }

    private static Run three() {
        return Run.table("8: 1 2 -", "9: 3 - 4", "10: 5 6 7");
    }

    private static void aColumnGoes() {
        three().due("drop(2)", 2).due("has(0)", 3).due("has(1)", 2).due("has(2)", 4).due("has(4)", 17)
                .column(0, "1 2 -").column(1, "3 - 4").mask(0, "0 1 2").refused("get(2, 0)", Run.INDEX);
    }

    private static void imagesStay() {
        three().call("keep(0)").call("drop(0)").call("drop(0)").call("back(0)").like(three());
    }

    private static void thoseBehindAreOneLess() {
        three().due("drop(0)", 2).column(0, "3 - 4").column(1, "5 6 7").due("width(0, 0)", 9).due("width(1, 0)", 10);
        three().due("drop(1)", 2).column(0, "1 2 -").column(1, "5 6 7").due("width(0, 0)", 8).due("width(1, 0)", 10);
        Run full = Run.full(6, 8, 0);
        for (int c = 0; c < 6; c++) {
            full.call("fill(" + c + ", " + c + ", 0)");
        }
        full.due("drop(1)", 5);
        for (int c = 1; c < 5; c++) {
            full.due("get(" + c + ", 0)", c + 1).due("get(" + c + ", 191)", c + 1);
        }
        full.due("get(0, 191)", 0);
    }

    private static void howManyAreLeft() {
        Run run = Run.table("2:", "3:", "4:", "5:", "6:", "7:");
        for (int left = 5; left >= 0; left--) {
            run.due("drop(0)", left).due("has(1)", left);
        }
        run.refused("drop(0)", Run.INDEX);
    }

    private static void noSuchColumn() {
        three().noColumn("drop(%)");
        new Run().noColumn("drop(%)");
        Run.table("2: 1", "3: 1", "4: 1", "5: 1", "6: 1", "7: 1").noColumn("drop(%)").due("drop(5)", 5)
                .noColumn("drop(%)");
    }
}
