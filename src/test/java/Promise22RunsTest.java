/** Promise 22: runs. */
public final class Promise22RunsTest {
    public static void main(String[] args) {
        Promise p = Promise.number(22);
        p.says("RUNS of a MASK are its longest rows of neighbouring ROWS: how many (what 0),",
                Promise22RunsTest::howMany);
        p.says("how long the longest is (1;", Promise22RunsTest::howLong);
        p.says("0 without),", Promise22RunsTest::noneIsZeroLong);
        p.says("the first ROW of the first such (2;", Promise22RunsTest::firstOfTheLongest);
        p.says("NONE).", Promise22RunsTest::noneStandsNowhere);
        p.says("RUNS of a MASK are its longest rows of neighbouring ROWS:", Promise22RunsTest::overWords);
        p.says("IndexOutOfBoundsException;", Promise22RunsTest::noSuchMask);
        p.says("IllegalArgumentException: what.", Promise22RunsTest::noSuchWhat);
        p.end();
    }

    private static Run nine(int bits) {
        return Run.rows(9).call("bits(1, 0, " + bits + ")");
    }

    private static void howMany() {
        nine(0).due("runs(1, 0)", 0);
        nine(0b111111111).due("runs(1, 0)", 1);
        nine(0b011011010).due("runs(1, 0)", 3);
        nine(0b101010101).due("runs(1, 0)", 5);
        nine(0b100000001).due("runs(1, 0)", 2);
    }

    private static void howLong() {
        nine(0b111111111).due("runs(1, 1)", 9);
        nine(0b011011010).due("runs(1, 1)", 2);
        nine(0b110001110).due("runs(1, 1)", 3);
        nine(0b101010101).due("runs(1, 1)", 1);
    }

    private static void noneIsZeroLong() {
        nine(0).due("runs(1, 1)", 0);
        new Run().due("runs(1, 1)", 0).due("runs(1, 0)", 0);
    }

    private static void firstOfTheLongest() {
        nine(0b011011010).due("runs(1, 2)", 3);
        nine(0b000000001).due("runs(1, 2)", 0);
        nine(0b100000000).due("runs(1, 2)", 8);
        nine(0b111000111).due("runs(1, 2)", 0);
        nine(0b111000011).due("runs(1, 2)", 6);
    }

    private static void noneStandsNowhere() {
        nine(0).due("runs(1, 2)", -1);
        new Run().due("runs(1, 2)", -1);
    }

    private static void overWords() {
        Run.rows(192).due("runs(0, 0)", 1).due("runs(0, 1)", 192).due("runs(0, 2)", 0).call("mask(1, 2, 60, 130)")
                .due("runs(1, 0)", 1).due("runs(1, 1)", 70).due("runs(1, 2)", 60).call("mask(1, 2, 63, 65)")
                .due("runs(1, 0)", 1).due("runs(1, 1)", 2).due("runs(1, 2)", 63).call("mask(1, 2, 191, 192)")
                .due("runs(1, 0)", 1).due("runs(1, 1)", 1).due("runs(1, 2)", 191).call("mask(1, 3, 2, 1)")
                .due("runs(1, 0)", 96).due("runs(1, 1)", 1).due("runs(1, 2)", 1);
    }

    private static void noSuchMask() {
        nine(5).noMask("runs(%, 0)").noMask("runs(%, 3)").noMask("runs(%, -1)").due("runs(7, 0)", 0);
    }

    private static void noSuchWhat() {
        nine(5).noNumber("runs(1, %)", "-1", "3", "MIN", "MAX");
        nine(0).noNumber("runs(1, %)", "-1", "3");
    }
}
