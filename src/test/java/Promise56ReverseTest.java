/** Promise 56: reverse. */
public final class Promise56ReverseTest {
    public static void main(String[] args) {
        Promise p = Promise.number(56);
        p.says("ROWS come in the other order, the last one first:", Promise56ReverseTest::inAllColumnsAndMasks);
        p.says("ROWS come in the other order, the last one first:", Promise56ReverseTest::overWords);
        p.says("ROWS come in the other order, the last one first:", Promise56ReverseTest::twiceIsAsItWas);
        p.says("ROWS.", Promise56ReverseTest::noneOneAndAll);
        p.end();
    }

    /** Mask 1 has rows 1, 3 and 4, mask 7 has rows 0, 4 and 5. */
    private static Run six() {
        return Run.table("8: 3 1 - 2 3 -", "20: 10 11 12 13 - 15").call("bits(1, 0, 26)").call("bits(7, 0, 49)");
    }

    private static void inAllColumnsAndMasks() {
        six().due("reverse()", 6).column(0, "- 3 2 - 1 3").column(1, "15 - 13 12 11 10").mask(1, "1 2 4")
                .mask(7, "0 1 5").mask(0, "0 1 2 3 4 5").mask(2, "").due("width(1, 0)", 20);
    }

    private static void overWords() {
        Run.ramp().call("mask(1, 2, 0, 1)").call("mask(2, 2, 64, 66)").due("reverse()", 192).mask(1, "191")
                .mask(2, "126 127").due("get(0, 0)", 191).due("get(0, 100)", 91).due("get(0, 191)", 0);
        Run.rows(65).call("mask(1, 2, 0, 1)").due("reverse()", 65).mask(1, "64").due("reverse()", 65).mask(1, "0");
    }

    private static void twiceIsAsItWas() {
        six().call("reverse()").call("reverse()").like(six());
    }

    private static void noneOneAndAll() {
        new Run().due("reverse()", 0).due("has(0)", 0);
        Run.table("8: 5").due("reverse()", 1).column(0, "5");
        Run.rows(192).due("reverse()", 192).due("row(0, NONE)", 192);
        Run.full(6, 8, 1).call("clear(5, 0)").due("reverse()", 192).due("get(5, 0)", 1)
                .due("get(5, 191)", Run.NOTHING);
    }
}
