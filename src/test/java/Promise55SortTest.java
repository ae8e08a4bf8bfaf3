/** Promise 55: sort. */
public final class Promise55SortTest {
    public static void main(String[] args) {
        Promise p = Promise.number(55);
        p.says("ROWS are put in order by the numbers of a COLUMN,", Promise55SortTest::inAllColumnsAndMasks);
        p.says("rising", Promise55SortTest::risingOnes);
        p.says("(falling),", Promise55SortTest::fallingOnes);
        p.says("EMPTY ones last (either way),", Promise55SortTest::emptyOnesLast);
        p.says("like ones as they stood:", Promise55SortTest::likeOnesAsTheyStood);
        p.says("how many ROWS are somewhere else.", Promise55SortTest::somewhereElse);
        p.says("how many ROWS are somewhere else.", Promise55SortTest::noneAndAll);
        p.says("IndexOutOfBoundsException.", Promise55SortTest::noSuchColumn);
        p.end();
    }

    private static void inAllColumnsAndMasks() {
        Run.table("8: 3 1 - 2 3 -", "20: 10 11 12 13 - 15").call("bits(1, 0, 26)").call("bits(7, 0, 49)")
                .due("sort(0, false)", 5).column(0, "1 2 3 3 - -").column(1, "11 13 10 - 12 15").mask(1, "0 1 3")
                .mask(7, "2 3 5").mask(0, "0 1 2 3 4 5").due("sort(1, true)", 5).column(1, "15 13 12 11 10 -")
                .column(0, "- 2 - 1 3 3");
    }

    private static void risingOnes() {
        Run.table("63: MOST 0 LEAST -1 1").due("sort(0, false)", 5)
                .column(0, Run.LEAST + " -1 0 1 " + Run.MOST);
        Run.table("2: 1 0 -1 -2").due("sort(0, false)", 4).column(0, "-2 -1 0 1");
        Run.ramp().call("reverse()").due("sort(0, false)", 192).due("get(0, 0)", 0).due("get(0, 64)", 64)
                .due("get(0, 191)", 191).due("upset(0, 0)", 0);
    }

    private static void fallingOnes() {
        Run.table("63: 0 MOST LEAST -1 1").due("sort(0, true)", 4)
                .column(0, Run.MOST + " 1 0 -1 " + Run.LEAST);
        Run.table("2: -2 -1 0 1").due("sort(0, true)", 4).column(0, "1 0 -1 -2");
        Run.ramp().due("sort(0, true)", 192).due("get(0, 0)", 191).due("get(0, 127)", 64).due("get(0, 191)", 0);
    }

    private static void emptyOnesLast() {
        Run.table("8: - - 1 - -128 127 -", "8: 0 1 2 3 4 5 6").due("sort(0, false)", 6).column(0, "-128 1 127 - - - -")
                .column(1, "4 2 5 0 1 3 6");
        Run.table("8: - - 1 - -128 127 -", "8: 0 1 2 3 4 5 6").due("sort(0, true)", 6).column(0, "127 1 -128 - - - -")
                .column(1, "5 2 4 0 1 3 6");
        Run.table("63: - LEAST - MOST").due("sort(0, false)", 4).column(0, Run.LEAST + " " + Run.MOST + " - -")
                .due("sort(0, true)", 2).column(0, Run.MOST + " " + Run.LEAST + " - -");
    }

    private static void likeOnesAsTheyStood() {
        Run.table("8: 2 1 2 1 2 -  -", "8: 0 1 2 3 4 5 6").due("sort(0, false)", 4).column(1, "1 3 0 2 4 5 6");
        Run.table("8: 1 2 1 2 1 -  -", "8: 0 1 2 3 4 5 6").due("sort(0, true)", 4).column(1, "1 3 0 2 4 5 6");
        Run.ramp().call("column(2)").call("fill(1, 1, 0)").due("sort(1, false)", 0).due("sort(1, true)", 0)
                .due("get(0, 0)", 0).due("get(0, 191)", 191).call("mask(1, 3, 2, 1)").call("fill(1, 0, 1)")
                .due("sort(1, false)", 192).due("get(0, 0)", 1).due("get(0, 1)", 3).due("get(0, 95)", 191)
                .due("get(0, 96)", 0).due("get(0, 97)", 2);
    }

    private static void somewhereElse() {
        Run.table("8: 1 3 2 4").due("sort(0, false)", 2).column(0, "1 2 3 4").due("sort(0, false)", 0)
                .due("sort(0, true)", 4);
        Run.table("8: 1 2 3").due("sort(0, true)", 2).column(0, "3 2 1");
    }

    private static void noneAndAll() {
        Run.table("8:").due("sort(0, false)", 0).due("sort(0, true)", 0);
        Run.table("8: 5").due("sort(0, false)", 0);
        Run.table("8: 3 9 1 8").call("bits(1, 0, 10)").call("remove(1)").due("sort(0, false)", 2).column(0, "1 3");
        Run.table("8: - - -", "8: 3 1 2").due("sort(0, false)", 0).due("sort(0, true)", 0).column(1, "3 1 2");
        Run.full(6, 8, 1).due("sort(5, true)", 0).call("set(5, 0, 0)").due("sort(5, true)", 192)
                .due("get(5, 191)", 0).due("sort(5, false)", 192).due("get(5, 0)", 0);
    }

    private static void noSuchColumn() {
        Run.table("8: 3 2 1", "8: 3 2 1").noColumn("sort(%, false)").noColumn("sort(%, true)");
        Run.rows(3).noColumn("sort(%, false)");
    }
}
