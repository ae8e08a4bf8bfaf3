/** Promise 39: fold. */
public final class Promise39FoldTest {
    public static void main(String[] args) {
        Promise p = Promise.number(39);
        p.says("All numbers bit by bit, as longs:", Promise39FoldTest::asLongs);
        p.says("in all of them (how 0;", Promise39FoldTest::inAll);
        p.says("-1 without any),", () -> without(0, -1));
        p.says("in any (1;", Promise39FoldTest::inAny);
        p.says("0 without),", () -> without(1, 0));
        p.says("in unevenly many (2;", Promise39FoldTest::inUnevenlyMany);
        p.says("0 without).", () -> without(2, 0));
        p.says("All numbers bit by bit,", Promise39FoldTest::underTheMask);
        p.says("IndexOutOfBoundsException;", Promise39FoldTest::noSuchColumnOrMask);
        p.says("IllegalArgumentException: how.", Promise39FoldTest::noSuchHow);
        p.end();
    }

    private static void asLongs() {
        for (int how = 0; how < 3; how++) {
            Run.table("2: -2").due("fold(0, 0, " + how + ")", -2);
            Run.table("63: LEAST").due("fold(0, 0, " + how + ")", Run.LEAST);
            Run.table("63: MOST").due("fold(0, 0, " + how + ")", Run.MOST);
        }
        Run.table("63: LEAST MOST").due("fold(0, 0, 0)", 0).due("fold(0, 0, 1)", -1).due("fold(0, 0, 2)", -1);
    }

    private static void inAll() {
        Run.table("8: 7 - -3 5").due("fold(0, 0, 0)", 5);
        Run.table("8: -1 -2").due("fold(0, 0, 0)", -2);
        Run.full(1, 8, -1).due("fold(0, 0, 0)", -1).call("set(0, 191, 6)").due("fold(0, 0, 0)", 6);
    }

    private static void inAny() {
        Run.table("8: 1 - 4").due("fold(0, 0, 1)", 5);
        Run.table("8: 1 -128").due("fold(0, 0, 1)", -127);
        Run.full(1, 8, 0).due("fold(0, 0, 1)", 0).call("set(0, 191, 6)").due("fold(0, 0, 1)", 6);
        Run.ramp().due("fold(0, 0, 1)", 255);
    }

    private static void inUnevenlyMany() {
        Run.table("8: 7 - -3 5").due("fold(0, 0, 2)", 7 ^ -3 ^ 5);
        Run.table("8: 7 7").due("fold(0, 0, 2)", 0);
        Run.table("8: 7 7 7").due("fold(0, 0, 2)", 7);
        Run.full(1, 8, -1).due("fold(0, 0, 2)", 0).call("clear(0, 191)").due("fold(0, 0, 2)", -1);
    }

    private static void without(int how, long due) {
        Run.table("8: 5 5").due("fold(0, 7, " + how + ")", due);
        Run.table("8: - -").due("fold(0, 0, " + how + ")", due);
        Run.table("8:").due("fold(0, 0, " + how + ")", due);
    }

    private static void underTheMask() {
        Run.table("8: 7 3 6", "8: 0 0 0").call("mask(1, 2, 1, 3)").due("fold(0, 1, 0)", 2).due("fold(0, 1, 1)", 7)
                .due("fold(0, 1, 2)", 5).due("fold(1, 1, 0)", 0);
    }

    private static void noSuchColumnOrMask() {
        Run.table("8: 1").noColumn("fold(%, 0, 0)").noMask("fold(0, %, 0)").noColumn("fold(%, 0, 3)")
                .noMask("fold(0, %, -1)");
        new Run().noColumn("fold(%, 0, 0)");
    }

    private static void noSuchHow() {
        Run.table("8: 1").noNumber("fold(0, 0, %)", "-1", "3", "MIN", "MAX").noNumber("fold(0, 7, %)", "-1", "3");
    }
}
