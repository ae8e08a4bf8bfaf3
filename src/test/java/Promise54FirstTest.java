/** Promise 54: first. */
public final class Promise54FirstTest {
    public static void main(String[] args) {
        Promise p = Promise.number(54);
        p.says("ROWS of a MASK come first, in order,", Promise54FirstTest::comeFirst);
        p.says("the others behind these, in order:", Promise54FirstTest::othersBehind);
        p.says("ROWS of a MASK come first,", Promise54FirstTest::inAllColumnsAndMasks);
        p.says("ROWS of a MASK come first,", Promise54FirstTest::overWords);
        p.says("how many ROWS are somewhere else.", Promise54FirstTest::somewhereElse);
        p.says("how many ROWS are somewhere else.", Promise54FirstTest::noneAndAll);
        p.says("IndexOutOfBoundsException.", Promise54FirstTest::noSuchMask);
        p.end();
    }

    private static void comeFirst() {
        Run.table("8: 0 1 2 3 4").call("bits(1, 0, 20)").due("first(1)", 5).column(0, "2 4 0 1 3").mask(1, "0 1");
    }

    private static void othersBehind() {
        Run.table("8: 4 3 2 1 0").call("bits(1, 0, 16)").due("first(1)", 5).column(0, "0 4 3 2 1").mask(1, "0");
    }

    private static void inAllColumnsAndMasks() {
        Run.table("8: 3 1 - 2 3 -", "20: 10 11 12 13 - 15").call("bits(1, 0, 26)").call("bits(2, 0, 49)")
                .due("first(1)", 5).column(0, "1 2 3 3 - -").column(1, "11 13 - 10 12 15").mask(1, "0 1 2")
                .mask(2, "2 3 5").mask(0, "0 1 2 3 4 5").mask(7, "");
        Run run = Run.rows(2);
        for (int c = 0; c < 6; c++) {
            run.call("column(8)").call("set(" + c + ", 1, " + c + ")");
        }
        run.call("mask(7, 2, 1, 2)").due("first(7)", 2);
        for (int c = 0; c < 6; c++) {
            run.column(c, c + " -");
        }
        run.mask(7, "0");
    }

    private static void overWords() {
        Run.ramp().call("mask(1, 2, 191, 192)").call("mask(2, 2, 63, 64)").due("first(1)", 192).due("get(0, 0)", 191)
                .due("get(0, 1)", 0).due("get(0, 191)", 190).mask(1, "0").mask(2, "64");
        Run.ramp().call("mask(1, 3, 2, 1)").due("first(1)", 192).due("get(0, 0)", 1).due("get(0, 95)", 191)
                .due("get(0, 96)", 0).due("get(0, 191)", 190);
    }

    private static void somewhereElse() {
        Run.table("8: 0 1 2 3 4").call("bits(1, 0, 9)").due("first(1)", 3).column(0, "0 3 1 2 4").due("first(1)", 0)
                .column(0, "0 3 1 2 4");
        // Rows that are alike are somewhere else, too.
        Run.table("8: 5 5").call("bits(1, 0, 2)").due("first(1)", 2).column(0, "5 5").mask(1, "0");
    }

    private static void noneAndAll() {
        Run.ramp().due("first(7)", 0).due("first(0)", 0).due("get(0, 0)", 0).due("get(0, 191)", 191);
        Run.rows(192).call("mask(1, 2, 0, 100)").due("first(1)", 0).call("mask(1, 2, 1, 192)").due("first(1)", 192);
        new Run().due("first(0)", 0);
        Run.table("8: 1").due("first(0)", 0).due("first(7)", 0);
    }

    private static void noSuchMask() {
        Run.table("8: 1 2 3").noMask("first(%)");
        new Run().noMask("first(%)");
    }
}
