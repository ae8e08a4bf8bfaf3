/** Promise 30: share. */
public final class Promise30ShareTest {
    public static void main(String[] args) {
        Promise p = Promise.number(30);
        p.says("The least of them that no fewer than k by n of them are no more than",
                Promise30ShareTest::justEnoughAndOneMore);
        p.says("The least of them that no fewer than k by n of them are no more than", Promise30ShareTest::likeOnes);
        p.says("The least of them that no fewer than k by n of them are no more than",
                Promise30ShareTest::underTheMask);
        p.says("(n 1 .. 1000, k 0 .. n;", Promise30ShareTest::edgesOfKAndN);
        p.says("of k 0 the least).", Promise30ShareTest::ofNoneTheLeast);
        p.says("NOTHING: there are none.", Promise30ShareTest::thereAreNone);
        p.says("IndexOutOfBoundsException;", Promise30ShareTest::noSuchColumnOrMask);
        p.says("IllegalArgumentException: n,", Promise30ShareTest::noSuchN);
        p.says("k.", Promise30ShareTest::noSuchK);
        p.end();
    }

    private static void justEnoughAndOneMore() {
        Run.table("8: 40 - 10 30 20").due("share(0, 0, 1, 4)", 10).due("share(0, 0, 250, 1000)", 10)
                .due("share(0, 0, 251, 1000)", 20).due("share(0, 0, 1, 2)", 20).due("share(0, 0, 501, 1000)", 30)
                .due("share(0, 0, 3, 4)", 30).due("share(0, 0, 751, 1000)", 40).due("share(0, 0, 1, 3)", 20)
                .due("share(0, 0, 2, 3)", 30);
        Run.ramp().call("reverse()").due("share(0, 0, 1, 192)", 0).due("share(0, 0, 2, 192)", 1)
                .due("share(0, 0, 191, 192)", 190).due("share(0, 0, 999, 1000)", 191)
                .due("share(0, 0, 994, 1000)", 190).due("share(0, 0, 995, 1000)", 191).due("share(0, 0, 5, 1000)", 0)
                .due("share(0, 0, 6, 1000)", 1);
    }

    private static void likeOnes() {
        Run.table("8: 7 7 7 9").due("share(0, 0, 3, 4)", 7).due("share(0, 0, 751, 1000)", 9);
        Run.full(1, 63, Run.LEAST).due("share(0, 0, 0, 1)", Run.LEAST).due("share(0, 0, 1, 1)", Run.LEAST)
                .call("set(0, 5, MOST)").due("share(0, 0, 1, 1)", Run.MOST).due("share(0, 0, 191, 192)", Run.LEAST);
    }

    private static void underTheMask() {
        Run.table("8: 40 - 10 30 20", "8: 1 2 3 4 5").call("mask(1, 2, 0, 3)").due("share(0, 1, 1, 2)", 10)
                .due("share(0, 1, 501, 1000)", 40).due("share(1, 1, 1, 1)", 3);
    }

    private static void edgesOfKAndN() {
        Run.table("8: 40 - 10 30 20").due("share(0, 0, 0, 1)", 10).due("share(0, 0, 1, 1)", 40)
                .due("share(0, 0, 0, 1000)", 10).due("share(0, 0, 1, 1000)", 10).due("share(0, 0, 999, 1000)", 40)
                .due("share(0, 0, 1000, 1000)", 40);
        Run.table("8: 6").due("share(0, 0, 0, 1)", 6).due("share(0, 0, 1, 1)", 6).due("share(0, 0, 1, 1000)", 6)
                .due("share(0, 0, 1000, 1000)", 6);
    }

    private static void ofNoneTheLeast() {
        Run.table("63: 5 LEAST MOST").due("share(0, 0, 0, 1)", Run.LEAST).due("share(0, 0, 0, 1000)", Run.LEAST);
    }

    private static void thereAreNone() {
        Run.table("8: 1 -").due("share(0, 7, 0, 1)", Run.NOTHING).due("share(0, 7, 1, 1)", Run.NOTHING)
                .call("mask(1, 2, 1, 2)").due("share(0, 1, 1, 2)", Run.NOTHING);
        Run.table("8:").due("share(0, 0, 0, 1)", Run.NOTHING).due("share(0, 0, 1000, 1000)", Run.NOTHING);
    }

    private static void noSuchColumnOrMask() {
        Run.table("8: 1").noColumn("share(%, 0, 0, 1)").noMask("share(0, %, 0, 1)").noColumn("share(%, 0, 0, 0)")
                .noColumn("share(%, 0, 2, 1)").noMask("share(0, %, 0, 0)").noMask("share(0, %, 2, 1)");
        new Run().noColumn("share(%, 0, 0, 1)");
    }

    private static void noSuchN() {
        Run.table("8: 1").noNumber("share(0, 0, 0, %)", "0", "1001", "-1", "MIN", "MAX")
                .noNumber("share(0, 7, 0, %)", "0", "1001").noNumber("share(0, 0, 1, %)", "0", "1001", "-1");
    }

    private static void noSuchK() {
        Run.table("8: 1").noNumber("share(0, 0, %, 1)", "-1", "2", "MIN", "MAX")
                .noNumber("share(0, 0, %, 1000)", "-1", "1001").noNumber("share(0, 7, %, 5)", "-1", "6");
    }
}
