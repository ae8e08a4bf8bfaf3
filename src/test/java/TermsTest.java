/** The terms of the document, sentence by sentence: what holds for many calls at once. */
public final class TermsTest {
    public static void main(String[] args) {
        Promise p = Promise.terms();
        p.says("An object is used for at most 512 calls after it has been made; what later calls answer is free.",
                TermsTest::fiveHundredAndTwelveCalls);
        p.says("I. ROWS are numbered from 0 on, 192 at most;", TermsTest::rowsFromNoneToAll);
        p.says("COLUMNS from 0 on, 6 at most.", TermsTest::columnsFromNoneToAll);
        p.says("A COLUMN has a WIDTH w of 2 .. 63:", TermsTest::leastAndGreatestWidth);
        p.says("its numbers are -2 to the (w less 1) .. 2 to the (w less 1) less 1 (these FIT).",
                TermsTest::leastAndGreatestNumber);
        p.says("A CELL of a COLUMN and a ROW has a number, or is EMPTY.", TermsTest::numberOrEmpty);
        p.says("MASKS 0 .. 7 are sets of ROWS,", TermsTest::firstAndLastMask);
        p.says("all without any at first.", TermsTest::withoutAnyAtFirst);
        p.says("\"Under a MASK\" are the ROWS of it.", TermsTest::asksUnderAMask);
        p.says("\"Under a MASK\" are the ROWS of it.", TermsTest::actsUnderAMask);
        p.says("A MASK that is made anew from itself: by what it was.", TermsTest::madeFromItself);
        p.says("SUMS, products are whole numbers, however great:", TermsTest::howeverGreat);
        p.says("an answer that is no long (below -2 to the 63, 2 to the 63 or above) is an ArithmeticException.",
                TermsTest::noLong);
        p.says("ACTS change numbers all or none: if one that would come does not FIT the COLUMN that it comes to, it is"
                + " an ArithmeticException, and nothing is changed.", TermsTest::allOrNone);
        p.says("EMPTY CELLS are left EMPTY,", TermsTest::leftEmpty);
        p.says("but by set(), fill(), copy().", TermsTest::notLeftEmpty);
        p.says("When several refusals fit one call: first IndexOutOfBoundsException (no such COLUMN,",
                TermsTest::noColumnComesFirst);
        p.says("ROW, MASK, image, bit, word),", TermsTest::noMaskComesFirst);
        p.says("ROW, MASK, image, bit, word),", TermsTest::noRowBitWordOrImageComesFirst);
        p.says("then IllegalArgumentException (another number that can't be),", TermsTest::argumentComesNext);
        p.says("then IllegalStateException (as told), then ArithmeticException.", TermsTest::stateAndArithmetic);
        p.says("A refused call changes nothing.", TermsTest::refusedCallsChangeNothing);
        p.says("The constants: `NONE = -1`: There is none.", TermsTest::none);
        p.says("`NOTHING = Long.MIN_VALUE`: No number.", TermsTest::nothing);
        p.end();
    }

    private static void fiveHundredAndTwelveCalls() {
        Run run = new Run().call("column(63)").call("rows(1)").call("mask(0, 0, 0, 0)").call("set(0, 0, 0)")
                .call("keep(0)");
        for (int i = 1; i <= 505; i++) {
            run.due("add(0, 1, 0)", 1);
        }
        run.due("get(0, 0)", 505).due("back(0)", 1);
    }

    // ---- rows, columns, cells, masks

    private static void rowsFromNoneToAll() {
        Run.table("8:").refused("get(0, 0)", Run.INDEX).refused("alike(0, 0)", Run.INDEX);
        Run run = Run.ramp();
        for (int row = 0; row < 192; row++) {
            run.due("get(0, " + row + ")", row);
        }
        run.noRow("get(0, %)").noRow("set(0, %, 1)").noRow("clear(0, %)").noRow("upTo(0, %, 0)").noRow("alike(%, 0)")
                .noRow("alike(0, %)").refused("rows(1)", Run.STATE).due("has(0)", 192);
    }

    private static void columnsFromNoneToAll() {
        new Run().noColumn("width(%, 0)");
        Run run = new Run();
        for (int c = 0; c < 6; c++) {
            run.refused("width(" + c + ", 0)", Run.INDEX).due("column(" + (2 + c) + ")", c)
                    .due("width(" + c + ", 0)", 2 + c);
        }
        run.refused("width(6, 0)", Run.INDEX).refused("column(2)", Run.STATE).due("has(1)", 6);
    }

    private static void leastAndGreatestWidth() {
        Run.table("2: 1", "63: 1").noNumber("column(%)", "1", "64").noNumber("widen(0, %)", "1", "64")
                .due("widen(0, 63)", 2).due("widen(1, 2)", 63).due("has(4)", 65);
    }

    private static void leastAndGreatestNumber() {
        for (int width = 2; width <= 63; width++) {
            long least = -(1L << (width - 1));
            long most = (1L << (width - 1)) - 1;
            Run.table(width + ": " + least + " " + most).column(0, least + " " + most).due("width(0, 2)", width)
                    .doesNotFit("set(0, 0, " + (least - 1) + ")").doesNotFit("set(0, 1, " + (most + 1) + ")")
                    .doesNotFit("fill(0, " + (least - 1) + ", 0)").doesNotFit("fill(0, " + (most + 1) + ", 0)");
        }
    }

    private static void numberOrEmpty() {
        Run.table("2: - 0 -1", "63: - LEAST MOST").due("get(0, 0)", Run.NOTHING).due("get(1, 0)", Run.NOTHING)
                .due("get(0, 1)", 0).due("get(0, 2)", -1).due("has(2)", 4).due("has(3)", 2).due("empty(1, 0, 0)", 1)
                .mask(1, "0").due("count(0, 0)", 2);
    }

    private static void firstAndLastMask() {
        Run run = Run.rows(192);
        for (int m = 0; m < 8; m++) {
            run.due("mask(" + m + ", 2, " + m + ", 192)", 192 - m);
        }
        for (int m = 0; m < 8; m++) {
            run.due("row(" + m + ", NONE)", 192 - m).due("row(" + m + ", 0)", m);
        }
        run.noMask("mask(%, 0, 0, 0)").noMask("row(%, NONE)").noMask("word(%, 0)").noMask("bits(%, 0, 0)")
                .noMask("runs(%, 0)").noMask("remove(%)").noMask("first(%)");
    }

    private static void withoutAnyAtFirst() {
        Run run = new Run().call("rows(64)").call("rows(64)").call("rows(64)");
        for (int m = 0; m < 8; m++) {
            run.due("row(" + m + ", NONE)", 0).due("word(" + m + ", 0)", 0).due("word(" + m + ", 1)", 0)
                    .due("word(" + m + ", 2)", 0).mask(m, "");
        }
    }

    /** Mask 1 has row 1 alone; what stands in the other rows would make each answer another one. */
    private static void asksUnderAMask() {
        String[] calls = {"compare(2, 0, 3, 99, 1)", "against(2, 0, 1, 0, 1)", "empty(2, 2, 1)", "top(2, 0, 1, 9)",
            "field(2, 0, 0, 1, 1, 1)", "firsts(2, 1)", "count(0, 1)", "sum(0, 1)", "mean(0, 1, 0)", "kth(0, 1, 0)",
            "kth(0, 1, -1)", "share(0, 1, 1, 1)", "upset(0, 1)", "rank(0, 1, 99, 0)", "unlike(0, 1, 0)",
            "ones(0, 0, 1)", "where(0, 1, 3)", "dot(0, 1, 1)", "steps(0, 1)", "upTo(0, 2, 1)", "fold(0, 1, 1)",
            "spread(0, 1)", "nearest(0, 1, 9)", "box(0, 1, 0, 99, 0)"};
        long[] due = {1, 1, 1, 1, 1, 1, 1, 3, 3, 3, 3, 3, 0, 1, 1, 1, 1, 12, 0, 3, 3, 0, 3, 1};
        long[] underNone = {0, 0, 0, 0, 0, 0, 0, 0, 0, Run.NOTHING, Run.NOTHING, Run.NOTHING, 0, 0, 0, 0, -1, 0, 0, 0,
            0, 0, Run.NOTHING, 0};
        for (int i = 0; i < calls.length; i++) {
            Run run = Run.table("8: 7 3 5", "8: 8 4 6", "8: - - -").call("mask(1, 2, 1, 2)");
            run.due(calls[i], due[i]).call("mask(1, 1, 0, 0)");
            if (calls[i].startsWith("mean")) {
                run.refused(calls[i], Run.STATE);
            } else {
                run.due(calls[i], underNone[i]);
            }
        }
    }

    private static void actsUnderAMask() {
        String[] calls = {"add(0, 1, 1)", "plus(0, 1, false, 1)", "scale(0, 2, 1)", "shift(0, 1, 1)",
            "hold(0, 0, 1, 1)", "fill(0, 9, 1)", "copy(0, 1, 1)", "pick(0, 1, true, 1)", "wipe(0, 1)"};
        String[] due = {"7 4 5", "7 7 5", "7 6 5", "7 6 5", "7 1 5", "7 9 5", "7 4 5", "7 4 5", "7 - 5"};
        for (int i = 0; i < calls.length; i++) {
            Run.table("8: 7 3 5", "8: 8 4 6").call("mask(1, 2, 1, 2)").call(calls[i]).column(0, due[i])
                    .column(1, "8 4 6").mask(1, "1");
            Run.table("8: 7 3 5", "8: 8 4 6").due(calls[i], 0).column(0, "7 3 5");
        }
    }

    private static void madeFromItself() {
        Run.rows(5).due("move(0, 0, 1)", 4).mask(0, "1 2 3 4").due("move(0, 0, -2)", 3).mask(0, "0 1 2")
                .due("turn(0, 0)", 2).mask(0, "3 4");
        Run run = Run.table("8: 3 1 3 - 9", "8: 2 2 2 2 2").due("compare(0, 0, 2, 3, 0)", 2).mask(0, "0 2")
                .due("firsts(0, 0)", 1).mask(0, "0");
        run.call("mask(0, 2, 1, 5)").due("against(0, 0, 1, 5, 0)", 2).mask(0, "2 4").due("top(0, 0, 0, 1)", 1)
                .mask(0, "4");
        run.call("mask(0, 2, 1, 5)").due("empty(0, 0, 0)", 1).mask(0, "3");
        run.call("mask(0, 2, 1, 5)").due("field(0, 0, 1, 1, 1, 0)", 1).mask(0, "2");
        run.call("mask(0, 2, 1, 5)").call("mask(1, 2, 0, 2)").due("join(0, 0, 1, 2)", 4).mask(0, "0 2 3 4")
                .due("join(0, 1, 0, 3)", 1).mask(0, "1").due("join(0, 0, 0, 2)", 0).mask(0, "");
        Run.rows(192).due("move(0, 0, 64)", 128).due("move(0, 0, 64)", 64).due("turn(0, 0)", 128)
                .due("word(0, 0)", -1).due("word(0, 1)", -1).due("word(0, 2)", 0);
    }

    // ---- sums and acts

    private static void howeverGreat() {
        Run.table("63: MOST MOST MOST LEAST LEAST LEAST").due("sum(0, 0)", -3).due("upTo(0, 5, 0)", -3)
                .due("mean(0, 0, 0)", -1).due("mean(0, 0, 1)", 3);
        Run.table("63: MOST LEAST 5", "63: MOST LEAST 1").refused("dot(0, 1, 0)", Run.ARITHMETIC)
                .call("set(1, 1, -1)").call("set(1, 0, -1)").due("dot(0, 1, 0)", 6);
        Run.full(1, 63, Run.LEAST).due("spread(0, 0)", 0).due("steps(0, 0)", 0).due("mean(0, 0, 0)", Run.LEAST);
        Run.table("63: MOST").due("box(0, 0, MAX, MAX, MAX)", 0).due("box(0, 0, MIN, MAX, 1)", 1);
    }

    private static void noLong() {
        Run.table("63: MOST MOST 1", "2: 1 1 1").due("sum(0, 0)", Long.MAX_VALUE).due("upTo(0, 2, 0)", Long.MAX_VALUE)
                .due("dot(0, 1, 0)", Long.MAX_VALUE).call("set(0, 2, 2)").refused("sum(0, 0)", Run.ARITHMETIC)
                .refused("upTo(0, 2, 0)", Run.ARITHMETIC).refused("dot(0, 1, 0)", Run.ARITHMETIC);
        Run.table("63: LEAST LEAST 0", "2: 1 1 1").due("sum(0, 0)", Long.MIN_VALUE).due("upTo(0, 2, 0)", Long.MIN_VALUE)
                .due("dot(0, 1, 0)", Long.MIN_VALUE).call("set(0, 2, -1)").refused("sum(0, 0)", Run.ARITHMETIC)
                .refused("upTo(0, 2, 0)", Run.ARITHMETIC).refused("dot(0, 1, 0)", Run.ARITHMETIC);
        Run.table("63: LEAST MOST MOST").due("steps(0, 0)", Long.MAX_VALUE).call("set(0, 2, " + (Run.MOST - 1) + ")")
                .refused("steps(0, 0)", Run.ARITHMETIC);
        Run.table("63: 0 3037000499").due("spread(0, 0)", 9223372030926249001L).call("set(0, 1, 3037000500)")
                .refused("spread(0, 0)", Run.ARITHMETIC);
    }

    /** The one that does not FIT stands first, in between and last; by itself each other one would come. */
    private static void allOrNone() {
        for (String cells : new String[] {"127 1 - 1", "1 127 - 1", "1 - 1 127"}) {
            Run.table("8: " + cells, "20: 200 200 200 200").doesNotFit("add(0, 1, 0)")
                    .doesNotFit("plus(0, 0, false, 0)").doesNotFit("plus(0, 1, false, 0)").doesNotFit("scale(0, 2, 0)")
                    .doesNotFit("shift(0, 1, 0)").doesNotFit("hold(0, 0, 200, 0)").doesNotFit("fill(0, 200, 0)")
                    .doesNotFit("copy(0, 1, 0)").doesNotFit("pick(0, 1, true, 0)").doesNotFit("widen(0, 7)")
                    .column(0, cells).due("has(6)", 10);
        }
        Run.table("8: 1 1 1", "20: 2 2 200").doesNotFit("copy(0, 1, 0)").doesNotFit("pick(0, 1, true, 0)")
                .doesNotFit("plus(0, 1, false, 0)").column(0, "1 1 1");
    }

    private static void leftEmpty() {
        String[] acts = {"add(0, 5, 0)", "plus(0, 1, false, 0)", "plus(0, 0, true, 0)", "scale(0, 0, 0)",
            "shift(0, 1, 0)", "shift(0, -1, 0)", "hold(0, 5, 6, 0)", "pick(0, 1, true, 0)", "pick(0, 1, false, 0)",
            "wipe(0, 0)", "widen(0, 2)", "widen(0, 63)"};
        for (String act : acts) {
            Run.table("8: - -", "8: 1 -1").call(act).column(0, "- -").column(1, "1 -1");
        }
    }

    private static void notLeftEmpty() {
        Run.table("8: - -", "8: 1 -1").due("set(0, 1, 5)", 1).column(0, "- 5");
        Run.table("8: - -", "8: 1 -1").due("fill(0, 5, 0)", 2).column(0, "5 5");
        Run.table("8: - -", "8: 1 -1").due("copy(0, 1, 0)", 2).column(0, "1 -1");
    }

    // ---- refusals

    /** Column 0 has a SUM, squares and steps that are no longs; columns 0 and 1 are at the edge; mask 7 has none. */
    private static Run atTheEdge() {
        return Run.table("63: MOST LEAST MOST MOST MOST", "2: 1 1 1 1 1", "3:", "4:", "5:", "6:").call("bits(1, 0, 5)")
                .call("keep(0)").call("set(1, 0, 0)").call("bits(2, 0, 6)").call("keep(1)").call("set(1, 0, 1)");
    }

    /** Each call that takes a column, with all else that can be wrong in it. */
    private static void noColumnComesFirst() {
        String[] calls = {"set(%, 0, MAX)", "width(%, 3)", "compare(0, %, 6, 0, 0)", "against(0, %, 0, 6, 0)",
            "against(0, 0, %, 6, 0)", "top(0, %, 0, -1)", "field(0, %, 0, 0, 0, 0)", "sum(%, 0)", "mean(%, 7, 2)",
            "mean(%, 7, 0)", "share(%, 0, 2, 1)", "share(%, 0, 0, 0)", "rank(%, 0, 0, 3)", "unlike(%, 0, 3)",
            "dot(%, 0, 0)", "dot(0, %, 0)", "steps(%, 0)", "upTo(%, 4, 0)", "fold(%, 0, 3)", "spread(%, 0)",
            "box(%, 0, 0, 0, 0)", "box(%, 0, 0, 1, -1)", "add(%, 1, 0)", "plus(%, 0, false, 0)", "plus(1, %, false, 0)",
            "scale(%, 10, 0)", "scale(%, 9, 0)", "shift(%, 63, 0)", "shift(%, 0, 0)", "shift(%, 62, 0)",
            "hold(%, 1, 0, 0)", "hold(%, MIN, MAX, 0)", "fill(%, MAX, 0)", "copy(%, 0, 0)", "copy(1, %, 0)",
            "pick(%, 0, true, 0)", "pick(1, %, true, 0)", "widen(%, 1)"};
        Run run = atTheEdge();
        for (String call : calls) {
            run.noColumn(call);
        }
    }

    /** Each call that takes a mask, with all else that can be wrong in it. */
    private static void noMaskComesFirst() {
        String[] calls = {"mask(%, 4, 0, 0)", "join(%, 0, 0, 4)", "join(0, %, 0, 4)", "join(0, 0, %, 4)",
            "compare(%, 0, 6, 0, 0)", "compare(0, 0, 6, 0, %)", "against(%, 0, 1, 6, 0)", "against(0, 0, 1, 6, %)",
            "top(%, 0, 0, -1)", "top(0, 0, %, -1)", "field(%, 0, 0, 0, 0, 0)", "field(0, 0, 0, 0, 0, %)",
            "move(%, 0, 193)", "move(0, %, 193)", "runs(%, 3)", "sum(0, %)", "mean(0, %, 2)", "share(0, %, 2, 1)",
            "share(0, %, 0, 0)", "rank(0, %, 0, 3)", "unlike(0, %, 3)", "dot(0, 0, %)", "steps(0, %)", "upTo(0, 4, %)",
            "fold(0, %, 3)", "spread(0, %)", "box(0, %, 0, 0, 0)", "box(0, %, 0, 1, -1)", "add(0, 1, %)",
            "plus(0, 0, false, %)", "scale(0, 10, %)", "shift(0, 63, %)", "shift(0, 0, %)", "hold(0, 1, 0, %)",
            "hold(0, MIN, MAX, %)", "fill(0, MAX, %)", "copy(1, 0, %)", "pick(1, 0, true, %)"};
        Run run = atTheEdge();
        for (String call : calls) {
            run.noMask(call);
        }
    }

    private static void noRowBitWordOrImageComesFirst() {
        atTheEdge().noRow("set(0, %, MAX)").noRow("upTo(0, %, 0)").noBit("field(0, 0, %, 0, 0, 0)", 63)
                .noBit("slice(0, %, 0)", 63).noBit("ones(0, %, 0)", 63).noWord("slice(0, 0, %)").noWord("bits(0, %, 1)")
                .noWord("word(0, %)").noImage("keep(%)").noImage("back(%)");
        new Run().noImage("back(%)");
    }

    private static void argumentComesNext() {
        atTheEdge().noNumber("column(%)", "1", "64").noNumber("mean(0, 7, %)", "-1", "2")
                .noNumber("scale(0, %, 0)", "-10", "10").noNumber("shift(0, %, 0)", "-63", "0", "63")
                .noNumber("hold(1, %, -3, 0)", "-2", "2").noNumber("widen(0, %)", "1", "64");
        Run.rows(192).noNumber("rows(%)", "0", "65");
        // A many and a v that are wrong both, and both numbers of share() and of box().
        atTheEdge().refused("field(0, 0, 0, 17, -1, 0)", Run.ARGUMENT).refused("share(0, 0, -1, 0)", Run.ARGUMENT)
                .refused("box(0, 0, 0, 0, -1)", Run.ARGUMENT).refused("mask(0, 2, 5, -1)", Run.ARGUMENT);
    }

    /** No call names both of these, but each has one of them when nothing ahead of it fits. */
    private static void stateAndArithmetic() {
        atTheEdge().refused("column(2)", Run.STATE).refused("mean(0, 7, 0)", Run.STATE)
                .refused("sum(0, 0)", Run.ARITHMETIC).doesNotFit("add(0, 1, 0)");
        Run.rows(192).refused("rows(1)", Run.STATE);
        new Run().refused("back(0)", Run.STATE).refused("back(1)", Run.STATE);
    }

    /** Each call that can be refused, by each exception that the document names for it. */
    private static void refusedCallsChangeNothing() {
        String[] index = {"drop(6)", "set(6, 0, 0)", "clear(0, 5)", "get(0, -1)", "width(6, 0)", "slice(0, 63, 0)",
            "mask(8, 0, 0, 0)", "bits(0, 3, 1)", "join(8, 0, 1, 0)", "turn(0, 8)", "compare(0, 6, 0, 0, 0)",
            "against(0, 0, 6, 0, 0)", "empty(8, 0, 0)", "top(0, 0, 8, 1)", "field(0, 0, 63, 1, 0, 0)", "move(0, 8, 1)",
            "firsts(0, 8)", "runs(8, 0)", "alike(0, 5)", "row(8, 0)", "word(0, 3)", "count(6, 0)", "sum(0, 8)",
            "mean(6, 0, 0)", "kth(0, 8, 0)", "share(6, 0, 0, 1)", "upset(0, 8)", "rank(6, 0, 0, 0)", "unlike(0, 8, 0)",
            "ones(0, 63, 0)", "where(6, 0, 0)", "dot(0, 6, 0)", "steps(0, 8)", "upTo(0, 5, 0)", "fold(6, 0, 0)",
            "spread(0, 8)", "nearest(6, 0, 0)", "box(0, 8, 0, 1, 0)", "add(6, 0, 0)", "plus(0, 6, true, 0)",
            "scale(0, 0, 8)", "shift(6, -1, 0)", "hold(0, 0, 0, 8)", "fill(0, 0, 8)", "copy(0, 6, 0)",
            "pick(6, 0, true, 0)", "wipe(0, 8)", "widen(6, 5)", "remove(8)", "first(8)", "sort(6, true)", "swap(0, 6)",
            "keep(2)", "back(2)"};
        String[] argument = {"column(64)", "rows(65)", "width(0, 3)", "mask(0, 4, 0, 0)", "join(0, 0, 1, 4)",
            "compare(0, 0, 6, 0, 0)", "against(0, 0, 1, 6, 0)", "top(0, 0, 0, -1)", "field(0, 0, 0, 17, 0, 0)",
            "field(0, 0, 0, 1, 2, 0)", "move(0, 0, 193)", "runs(0, 3)", "mean(0, 0, 2)", "share(0, 0, 0, 1001)",
            "share(0, 0, 2, 1)", "rank(0, 0, 0, 3)", "unlike(0, 0, 3)", "fold(0, 0, 3)", "box(0, 0, 0, 0, 0)",
            "box(0, 0, 0, 1, -1)", "scale(1, -10, 0)", "shift(1, -63, 0)", "shift(1, 0, 0)", "hold(1, 1, 0, 0)",
            "widen(1, 64)"};
        String[] arithmetic = {"sum(0, 0)", "dot(0, 0, 0)", "steps(0, 0)", "upTo(0, 4, 0)", "spread(0, 0)"};
        String[] acts = {"set(1, 0, 2)", "add(1, 1, 0)", "plus(1, 1, false, 0)", "scale(1, 2, 0)", "shift(1, 1, 0)",
            "hold(1, 0, 2, 0)", "fill(1, 2, 0)", "copy(1, 0, 0)", "pick(1, 0, true, 0)", "widen(0, 62)"};
        Run run = atTheEdge();
        for (String call : index) {
            run.refused(call, Run.INDEX);
        }
        for (String call : argument) {
            run.refused(call, Run.ARGUMENT);
        }
        for (String call : arithmetic) {
            run.refused(call, Run.ARITHMETIC);
        }
        for (String call : acts) {
            run.doesNotFit(call);
        }
        run.refused("column(2)", Run.STATE).refused("mean(0, 7, 1)", Run.STATE).call("rows(64)").call("rows(64)")
                .refused("rows(64)", Run.STATE).due("has(0)", 133);
    }

    // ---- the constants

    private static void none() {
        Check.is("NONE", -1, SliceColumns.NONE);
        Run.rows(1).due("has(7)", SliceColumns.NONE).due("row(7, 0)", SliceColumns.NONE)
                .due("runs(7, 2)", SliceColumns.NONE);
        Run.table("8: 1").due("where(0, 0, 2)", SliceColumns.NONE);
    }

    private static void nothing() {
        Check.is("NOTHING", Long.MIN_VALUE, SliceColumns.NOTHING);
        Run.table("8: -").due("get(0, 0)", SliceColumns.NOTHING).due("kth(0, 0, 0)", SliceColumns.NOTHING)
                .due("share(0, 0, 0, 1)", SliceColumns.NOTHING).due("unlike(0, 0, 1)", SliceColumns.NOTHING)
                .due("nearest(0, 0, 0)", SliceColumns.NOTHING);
    }
}
