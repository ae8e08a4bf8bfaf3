/** Promise 41: nearest. */
public final class Promise41NearestTest {
    public static void main(String[] args) {
        Promise p = Promise.number(41);
        p.says("The number that is nearest to v", Promise41NearestTest::theNearest);
        p.says("The number that is nearest to v", Promise41NearestTest::underTheMask);
        p.says("(any long),", Promise41NearestTest::edgesOfALong);
        p.says("(any long),", Promise41NearestTest::farApart);
        p.says("of like near ones the lesser", Promise41NearestTest::theLesser);
        p.says("(NOTHING without any).", Promise41NearestTest::nothingWithoutAny);
        p.says("IndexOutOfBoundsException.", Promise41NearestTest::noSuchColumnOrMask);
        p.end();
    }

    private static void theNearest() {
        Run.table("8: 10 - -4 6").due("nearest(0, 0, 7)", 6).due("nearest(0, 0, 9)", 10).due("nearest(0, 0, 0)", -4)
                .due("nearest(0, 0, 2)", 6).due("nearest(0, 0, -4)", -4).due("nearest(0, 0, 10)", 10)
                .due("nearest(0, 0, 11)", 10).due("nearest(0, 0, -5)", -4);
        Run.ramp().due("nearest(0, 0, 191)", 191).due("nearest(0, 0, 64)", 64).due("nearest(0, 0, -1)", 0)
                .due("nearest(0, 0, 500)", 191);
    }

    private static void underTheMask() {
        Run.table("8: 10 - -4 6", "8: 1 2 3 4").call("mask(1, 2, 0, 3)").due("nearest(0, 1, 5)", 10)
                .due("nearest(1, 1, 9)", 3);
    }

    private static void edgesOfALong() {
        Run.table("63: LEAST 0 MOST").due("nearest(0, 0, MAX)", Run.MOST).due("nearest(0, 0, MIN)", Run.LEAST)
                .due("nearest(0, 0, MOST)", Run.MOST).due("nearest(0, 0, LEAST)", Run.LEAST)
                .due("nearest(0, 0, " + (Run.MOST + 1) + ")", Run.MOST)
                .due("nearest(0, 0, " + (Run.LEAST - 1) + ")", Run.LEAST);
        Run.table("2: -2 1 0 -").due("nearest(0, 0, MAX)", 1).due("nearest(0, 0, MIN)", -2)
                .due("nearest(0, 0, 4294967296)", 1);
        Run.table("63: LEAST").due("nearest(0, 0, MAX)", Run.LEAST);
        Run.table("63: MOST").due("nearest(0, 0, MIN)", Run.MOST);
        // Beyond all numbers the outermost one is the nearest, though they are as good as equally far.
        Run.table("63: LEAST " + (Run.LEAST + 1)).due("nearest(0, 0, MAX)", Run.LEAST + 1)
                .due("nearest(0, 0, MIN)", Run.LEAST);
        Run.table("63: MOST " + (Run.MOST - 1)).due("nearest(0, 0, MIN)", Run.MOST - 1)
                .due("nearest(0, 0, MAX)", Run.MOST);
    }

    private static void farApart() {
        Run.table("63: LEAST MOST").due("nearest(0, 0, -1)", Run.LEAST).due("nearest(0, 0, 0)", Run.MOST);
        Run.table("63: 0 MOST").due("nearest(0, 0, " + Run.MOST / 2 + ")", 0)
                .due("nearest(0, 0, " + (Run.MOST / 2 + 1) + ")", Run.MOST);
    }

    private static void theLesser() {
        Run.table("8: 4 2 4").due("nearest(0, 0, 3)", 2);
        Run.table("8: 2 4 2").due("nearest(0, 0, 3)", 2);
        Run.table("8: 10 - -4 6").due("nearest(0, 0, 8)", 6).due("nearest(0, 0, 1)", -4);
        Run.table("63: MOST -4611686018427387903").due("nearest(0, 0, 0)", -Run.MOST);
    }

    private static void nothingWithoutAny() {
        Run.table("8: 5").due("nearest(0, 7, 5)", Run.NOTHING);
        Run.table("8: - -").due("nearest(0, 0, 0)", Run.NOTHING).due("nearest(0, 0, MIN)", Run.NOTHING);
        Run.table("8:").due("nearest(0, 0, 0)", Run.NOTHING);
    }

    private static void noSuchColumnOrMask() {
        Run.table("8: 1").noColumn("nearest(%, 0, 1)").noMask("nearest(0, %, 1)");
        new Run().noColumn("nearest(%, 0, 1)");
    }
}
