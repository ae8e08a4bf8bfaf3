import java.lang.reflect.InvocationTargetException;
import java.lang.reflect.Method;
import java.util.Arrays;
import java.util.HashMap;
import java.util.Map;
import java.util.Random;

/**
 * Runs of calls by chance, from fixed seeds, each on a SliceColumns and on a Model: every answer, every refusal and
 * the whole state must be the same.
 */
public final class ModelTest {
    private static final int RUNS = Integer.getInteger("runs", 800);
    private static final int FIRST_SEED = Integer.getInteger("seed", 1);
    private static final int CALLS = 512;

    /**
     * Each call with how often it comes and what its arguments are: c column, r row, m mask, w word, v number, h how
     * or what, b boolean, W width, N rows, k a small number, i image, t bit, s step, S shift, p parts, g great int.
     */
    private static final String[] CALLED = {
        "column 3 W", "drop 1 c", "rows 4 N", "set 20 crv", "clear 3 cr", "get 2 cr", "has 3 h", "width 4 ch",
        "slice 3 ctw", "mask 6 mhkk", "bits 8 mwv", "join 4 mmmh", "turn 3 mm", "compare 5 mchvm", "against 5 mcchm",
        "empty 3 mcm", "top 4 mcmk", "field 5 mctkkm", "move 3 mmg", "firsts 3 mm", "runs 4 mh", "alike 3 rr",
        "row 4 mk", "word 2 mw", "count 2 cm", "sum 4 cm", "mean 5 cmh", "kth 5 cmk", "share 5 cmpp", "upset 4 cm",
        "rank 4 cmvh", "unlike 5 cmh", "ones 3 ctm", "where 4 cmv", "dot 5 ccm", "steps 4 cm", "upTo 4 crm",
        "fold 4 cmh", "spread 5 cm", "nearest 5 cmv", "box 6 cmvsk", "add 6 cvm", "plus 5 ccbm", "scale 5 ckm",
        "shift 5 cSm", "hold 4 cvvm", "fill 5 cvm", "copy 4 ccm", "pick 4 ccbm", "wipe 2 cm", "widen 4 cW",
        "remove 1 m", "first 3 m", "sort 3 cb", "reverse 2 ", "swap 3 cc", "keep 2 i", "back 2 i"};

    private static final Map<String, Method> CALLS_BY_NAME = new HashMap<>();

    static {
        for (Class<?> type : new Class<?>[] {SliceColumns.class, Model.class}) {
            for (Method method : type.getMethods()) {
                CALLS_BY_NAME.put(type.getName() + method.getName(), method);
            }
        }
    }

    private final Random chance;
    private final SliceColumns program = new SliceColumns();
    private final Model model = new Model();
    /** How wide numbers mostly are in this run, and how often an argument is wrong (in a hundred). */
    private final int bits;
    private final int wrong;

    private ModelTest(long seed) {
        chance = new Random(seed);
        bits = 1 + chance.nextInt(64);
        wrong = chance.nextInt(3);
    }

    public static void main(String[] args) throws ReflectiveOperationException {
        Check.is("calls of the face", 58, CALLED.length);
        int[] answered = new int[CALLED.length];
        for (int i = 0; i < RUNS; i++) {
            int seed = FIRST_SEED + i;
            new ModelTest(seed).run(seed, answered);
        }
        for (int i = 0; i < CALLED.length; i++) {
            Check.is(CALLED[i] + " was answered often", 1, answered[i] >= RUNS / 4 ? 1 : 0);
        }
        Check.end();
    }

    private void run(int seed, int[] answered) throws ReflectiveOperationException {
        begin();
        int together = Arrays.stream(CALLED).mapToInt(ModelTest::often).sum();
        for (int n = 0; n < CALLS; n++) {
            int at = chance.nextInt(together);
            int i = 0;
            while (at >= often(CALLED[i])) {
                at -= often(CALLED[i]);
                i++;
            }
            answered[i] += call(seed, n, CALLED[i]) ? 1 : 0;
        }
    }

    private static int often(String called) {
        return Integer.parseInt(called.split(" ")[1]);
    }

    /** Most runs begin with some columns, rows and numbers, for else they come late. */
    private void begin() {
        if (chance.nextInt(20) == 0) {
            return;
        }
        int[] wordEdges = {63, 64, 65, 127, 128, 129, 191, 192};
        int columns = 1 + chance.nextInt(chance.nextInt(4) == 0 ? 6 : 3);
        int rows = chance.nextInt(4) == 0 ? wordEdges[chance.nextInt(8)] : 1 + chance.nextInt(12);
        for (int c = 0; c < columns; c++) {
            int width = width();
            program.column(width);
            model.column(width);
        }
        while (program.has(0) < rows) {
            int more = Math.min(64, rows - program.has(0));
            program.rows(more);
            model.rows(more);
        }
        program.mask(0, 0, 0, 0);
        model.mask(0, 0, 0, 0);
        int full = chance.nextInt(100);
        for (int c = 0; c < columns; c++) {
            for (int row = 0; row < rows; row++) {
                long v = fitting(program.width(c, 0));
                if (chance.nextInt(100) < full) {
                    program.set(c, row, v);
                    model.set(c, row, v);
                }
            }
        }
    }

    private boolean call(int seed, int n, String called) throws ReflectiveOperationException {
        String[] parts = (called + " ").split(" ", -1);
        Object[] arguments = new Object[parts[2].length()];
        int column = -1;
        for (int i = 0; i < arguments.length; i++) {
            arguments[i] = argument(parts[2].charAt(i), column);
            column = parts[2].charAt(i) == 'c' && column < 0 ? (Integer) arguments[i] : column;
        }
        String told = "run " + seed + ", call " + n + ": " + parts[0] + Arrays.toString(arguments);
        String due = answer(model, parts[0], arguments);
        String got = answer(program, parts[0], arguments);
        Check.isText(told, due, got);
        if (n % 16 == 0 || due.startsWith("java") || !due.equals(got)) {
            sameState(told);
        }
        return !due.startsWith("java");
    }

    private static String answer(Object on, String name, Object[] arguments) throws ReflectiveOperationException {
        try {
            return String.valueOf(CALLS_BY_NAME.get(on.getClass().getName() + name).invoke(on, arguments));
        } catch (InvocationTargetException e) {
            return e.getCause().getClass().getName();
        }
    }

    private void sameState(String told) {
        boolean same = true;
        for (int what = 0; what <= 6; what++) {
            same = same && model.has(what) == program.has(what);
        }
        int rows = model.has(0);
        int columns = model.has(1);
        for (int c = 0; same && c < columns; c++) {
            same = model.width(c, 0) == program.width(c, 0);
            for (int row = 0; same && row < rows; row++) {
                same = model.get(c, row) == program.get(c, row);
            }
        }
        for (int m = 0; same && m < 8; m++) {
            for (int w = 0; w < 3; w++) {
                same = same && model.word(m, w) == program.word(m, w);
            }
        }
        Check.is("the same state after " + told, 1, same ? 1 : 0);
    }

    private Object argument(char kind, int column) {
        boolean off = chance.nextInt(100) < wrong;
        switch (kind) {
            case 'c':
                return index(program.has(1), off);
            case 'r':
                return index(program.has(0), off);
            case 'm':
                // Mask 0 mostly has all rows or many: under the others there would too often be none.
                return chance.nextInt(3) == 0 ? 0 : index(8, off);
            case 'w':
                return index(3, off);
            case 'i':
                return index(2, off);
            case 't':
                return index(widthOf(column), off);
            case 'h':
                return index(chance.nextInt(4) == 0 ? 7 : 3, off);
            case 'b':
                return chance.nextBoolean();
            case 'W':
                return off ? index(66, true) : width();
            case 'N':
                return index(chance.nextInt(4) == 0 ? 66 : 6, off);
            case 'p':
                return index(chance.nextInt(4) == 0 ? 1002 : 6, off);
            case 'k':
                return chance.nextInt(3) == 0 ? index(200, off) : chance.nextInt(14) - 5;
            case 'g':
                return chance.nextInt(8) == 0 ? 200 - chance.nextInt(400) : 5 - chance.nextInt(10);
            case 'S':
                return chance.nextInt(3) == 0 ? 64 - chance.nextInt(129) : 63 - widthOf(column) + chance.nextInt(4) - 2;
            case 's':
                return chance.nextInt(12) == 0 ? number() : Math.abs(number() / (1 + chance.nextInt(9)));
            default:
                return column >= 0 && column < program.has(1) && chance.nextInt(3) > 0 ? near(column) : number();
        }
    }

    private int widthOf(int column) {
        return column >= 0 && column < program.has(1) ? program.width(column, 0) : 5;
    }

    private int index(int end, boolean off) {
        if (!off) {
            return chance.nextInt(Math.max(end, 1));
        }
        int[] outside = {-1, end, end + 1, Integer.MIN_VALUE, Integer.MAX_VALUE, -2};
        return outside[chance.nextInt(outside.length)];
    }

    private int width() {
        return chance.nextInt(3) == 0 ? 2 + chance.nextInt(62) : Math.max(2, Math.min(63, bits + chance.nextInt(3)));
    }

    /** A number that fits, often an outermost one. */
    private long fitting(int width) {
        long most = (1L << (width - 1)) - 1;
        switch (chance.nextInt(9)) {
            case 0:
                return most - chance.nextInt(2);
            case 1:
                return -most - 1 + chance.nextInt(2);
            case 2:
                return chance.nextInt(4) - 2;
            case 3:
                // A power of two, or what is beside it.
                long power = (-most - 1) >> chance.nextInt(width);
                return Math.min(most, (chance.nextBoolean() ? power : -power) + chance.nextInt(2));
            default:
                return chance.nextLong() >> (64 - width) >> chance.nextInt(width);
        }
    }

    private long number() {
        switch (chance.nextInt(8)) {
            case 0:
                return chance.nextLong();
            case 1:
                return chance.nextBoolean() ? Long.MIN_VALUE + chance.nextInt(2) : Long.MAX_VALUE - chance.nextInt(2);
            case 2:
                return (1L << chance.nextInt(64)) + chance.nextInt(3) - 1;
            case 3:
                return -(1L << chance.nextInt(64)) + chance.nextInt(3) - 1;
            case 4:
                return chance.nextLong() >> chance.nextInt(64);
            default:
                return chance.nextInt(9) - 4;
        }
    }

    /** A number that is in the column, or one beside it, or one that fits it. */
    private long near(int column) {
        if (program.has(0) == 0 || chance.nextInt(3) == 0) {
            return fitting(program.width(column, 0));
        }
        long v = program.get(column, chance.nextInt(program.has(0)));
        return v == SliceColumns.NOTHING ? chance.nextInt(5) - 2 : v + chance.nextInt(3) - 1;
    }
}
