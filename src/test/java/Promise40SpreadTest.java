/** Promise 40: spread. */
public final class Promise40SpreadTest {
    public static void main(String[] args) {
        Promise p = Promise.number(40);
        p.says("How many numbers there are times the SUM of their squares, less the square of their SUM.",
                Promise40SpreadTest::underTheMask);
        p.says("How many numbers there are times the SUM of their squares, less the square of their SUM.",
                Promise40SpreadTest::noneOneAndAll);
        p.says("How many numbers there are times the SUM of their squares, less the square of their SUM.",
                Promise40SpreadTest::throughWhatIsNoLong);
        p.says("IndexOutOfBoundsException;", Promise40SpreadTest::noSuchColumnOrMask);
        p.says("ArithmeticException.", Promise40SpreadTest::edgeOfTwo);
        p.says("ArithmeticException.", Promise40SpreadTest::edgeOfSome);
        p.says("ArithmeticException.", Promise40SpreadTest::whatWouldWrap);
        p.end();
    }

    private static void underTheMask() {
        Run.table("8: 7 - -3 5", "8: 1 2 3 4").due("spread(0, 0)", 3 * (49 + 9 + 25) - 81).call("mask(1, 2, 1, 4)")
                .due("spread(0, 1)", 2 * (9 + 25) - 4).due("spread(1, 1)", 3 * (4 + 9 + 16) - 81);
    }

    private static void noneOneAndAll() {
        Run.table("8: 7 5").due("spread(0, 7)", 0).call("mask(1, 2, 1, 2)").due("spread(0, 1)", 0);
        Run.table("8: - -").due("spread(0, 0)", 0);
        Run.table("8:").due("spread(0, 0)", 0);
        Run.ramp().due("spread(0, 0)", 192L * 191 * 192 * 383 / 6 - 191L * 96 * 191 * 96);
    }

    /** Squares far beyond a long whose difference is none. */
    private static void throughWhatIsNoLong() {
        Run.table("63: LEAST").due("spread(0, 0)", 0);
        Run.table("63: MOST MOST MOST " + (Run.MOST - 1)).due("spread(0, 0)", 3);
        Run.full(1, 63, Run.LEAST).due("spread(0, 0)", 0).call("set(0, 50, " + (Run.LEAST + 1) + ")")
                .due("spread(0, 0)", 191);
        Run.full(1, 63, Run.MOST).due("spread(0, 0)", 0).call("set(0, 0, " + (Run.MOST - 2) + ")")
                .due("spread(0, 0)", 191 * 4);
    }

    private static void noSuchColumnOrMask() {
        Run.table("63: LEAST MOST").noColumn("spread(%, 0)").noMask("spread(0, %)");
        new Run().noColumn("spread(%, 0)");
    }

    /** 3037000499 is the greatest number whose square is a long. */
    private static void edgeOfTwo() {
        for (String other : new String[] {"3037000499", "-3037000499"}) {
            Run.table("63: 0 " + other).due("spread(0, 0)", 9223372030926249001L);
        }
        for (String other : new String[] {"3037000500", "-3037000500", "LEAST", "MOST"}) {
            Run.table("63: 0 " + other).refused("spread(0, 0)", Run.ARITHMETIC);
        }
        Run.table("63: MOST " + (Run.MOST - 3037000499L)).due("spread(0, 0)", 9223372030926249001L);
        Run.table("63: LEAST " + (Run.LEAST + 3037000499L)).due("spread(0, 0)", 9223372030926249001L);
        Run.table("63: LEAST " + (Run.LEAST + 3037000500L)).refused("spread(0, 0)", Run.ARITHMETIC);
        Run.table("63: LEAST MOST").refused("spread(0, 0)", Run.ARITHMETIC);
        Run.table("63: MOST LEAST").refused("spread(0, 0)", Run.ARITHMETIC);
    }

    /** Each couple is a long apart in its square, all together may not be. */
    private static void edgeOfSome() {
        Run.table("40: 0 3037000499 3037000499").refused("spread(0, 0)", Run.ARITHMETIC);
        Run.table("40: 0 2147483648 2147483648").refused("spread(0, 0)", Run.ARITHMETIC);
        Run.table("40: 0 2147483648 2147483647").due("spread(0, 0)", (1L << 62) + 2147483647L * 2147483647L + 1);
        Run.full(1, 63, 0).call("set(0, 9, 219749643)").due("spread(0, 0)", 191L * 219749643L * 219749643L)
                .call("set(0, 9, 219749644)").refused("spread(0, 0)", Run.ARITHMETIC);
    }

    private static void whatWouldWrap() {
        Run.table("63: 0 4294967296").refused("spread(0, 0)", Run.ARITHMETIC);
        Run.table("63: 1 MOST LEAST 0").refused("spread(0, 0)", Run.ARITHMETIC);
        Run.full(1, 63, Run.MOST).call("mask(1, 3, 2, 0)").call("fill(0, LEAST, 1)")
                .refused("spread(0, 0)", Run.ARITHMETIC);
        Run.full(1, 63, 0).call("mask(1, 3, 2, 0)").call("fill(0, 3037000499, 1)")
                .refused("spread(0, 0)", Run.ARITHMETIC);
    }
}
