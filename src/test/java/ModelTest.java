import java.lang.reflect.Method;
import java.util.Arrays;

/**
 * All promises: many runs of 512 calls, held against the Model. The numbers come from a fixed
 * sequence, so every run of this test is the same.
 */
public final class ModelTest {
    private static final int RUNS = 2000;
    private static final int CALLS = 512;
    private static final int[] STRANGE = {
        -1, -2, -9, -10, 0, 5, 6, 8, 10, 12, 40, 41, 100, 256, 1001, Integer.MIN_VALUE, Integer.MAX_VALUE
    };
    // A method, how often it is called, and what its arguments are (see the numbers below).
    private static final String[] METHODS = {
        "version 1", "answer 8 face version argument answer", "differ 3 face version version",
        "goes 3 house version", "call 5 house face set", "wrap 5 house statement argument set",
        "split 6 house statement statement argument set", "clear 1 house",
        "sees 6 house statement face", "uses 3 house face", "shape 3 house face",
        "count 6 house face day number mark", "sum 3 house face day day", "silent 2 house",
        "most 2 face day day", "harm 6 house face version", "rule 2 face set face argument",
        "holds 5 rule version version", "clash 4 rule rule", "left 5 house face version",
        "days 2 ahead", "promise 4 face house promised", "shut 4 face day", "open 1 face",
        "about 6 face what", "harmed 3 face day", "ready 4 face", "set 4 what which number",
        "plan 3 what", "told 3 what", "trace 3"
    };
    private static final Due due = new Due("ModelTest");

    private final WhoCalls x = new WhoCalls();
    private final Model y = new Model();
    private final int run;
    // Of 128 arguments so many are strange.
    private final int strangeness;
    // Few doors in some runs, so that what is said of one meets.
    private final int doors;
    private long state;

    private ModelTest(int run) {
        this.run = run;
        state = run * 7919L + 17;
        strangeness = run % 4;
        doors = 1 + run % 8;
    }

    public static void main(String[] args) throws ReflectiveOperationException {
        String[] often = often();
        for (int run = 0; run < RUNS && due.wrong() < 20; run++) {
            new ModelTest(run).calls(often);
        }
        due.end();
    }

    private static String[] often() {
        String[] all = new String[0];
        for (String method : METHODS) {
            int from = all.length;
            all = Arrays.copyOf(all, from + Integer.parseInt(method.split(" ")[1]));
            Arrays.fill(all, from, all.length, method);
        }
        return all;
    }

    private void calls(String[] often) throws ReflectiveOperationException {
        for (int number = 0; number < CALLS; number++) {
            String[] words = often[next(often.length)].split(" ");
            // Most clearings are left out, so that texts grow long.
            if (words[0].equals("clear") && next(3) != 0) {
                continue;
            }
            Class<?>[] types = new Class<?>[words.length - 2];
            Object[] arguments = new Object[types.length];
            for (int i = 0; i < types.length; i++) {
                types[i] = int.class;
                arguments[i] = argument(words[i + 2]);
            }
            Method program = WhoCalls.class.getMethod(words[0], types);
            Method model = Model.class.getDeclaredMethod(words[0], types);
            Number got = (Number) program.invoke(x, arguments);
            Number want = (Number) model.invoke(y, arguments);
            if (got.longValue() != want.longValue()) {
                String call = words[0] + Arrays.toString(arguments);
                due.is("run " + run + ", call " + number + ": " + call, got.longValue(), want.longValue());
                return;
            }
        }
        due.is("run " + run + ", trace() in the end", x.trace(), y.trace());
    }

    private int next(int bound) {
        state = state * 6364136223846793005L + 1442695040888963407L;
        return (int) ((state >>> 33) % bound);
    }

    private int argument(String what) {
        if (next(128) < strangeness) {
            return STRANGE[next(STRANGE.length)];
        }
        switch (what) {
            case "house": return next(6);
            case "face": return next(doors);
            case "version": return next(y.told(0));
            case "argument": return next(8);
            case "answer": return next(4) == 0 ? -9 : next(3);
            case "set": return next(2) == 0 ? next(256) : next(256) & next(256) & next(256);
            case "statement": return next(next(3) == 0 ? 13 : 4);
            case "day": return next(2) == 0 ? next(41) : Math.min(y.told(1) + next(9), 40);
            case "number": return next(3) == 0 ? 0 : next(1001);
            case "mark": return next(100);
            case "rule": return next(y.told(2) + 1);
            case "ahead": return 1 + next(3);
            case "promised": return next(3) == 0 ? -9 : Math.min(y.told(1) + next(6), 39);
            case "what": return next(5);
            case "which": return next(8);
            default: throw new IllegalArgumentException(what);
        }
    }
}
