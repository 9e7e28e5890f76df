import java.lang.reflect.Method;
import java.util.ArrayList;
import java.util.Arrays;
import java.util.List;

/**
 * Each number of each call: the least and the most that it may be are taken, what lies beyond is BAD
 * (ahead of STATE and FULL too), and what is refused changes nothing.
 */
public final class EdgesTest {
    private static final Due due = new Due("EdgesTest");
    private static final int TODAY = 19;

    /** A call with good numbers, and for each of them the least and the most that it may be. */
    private record Row(String call, int[] good, int[] least, int[] most) { }

    private final List<Row> rows = new ArrayList<>();
    private final boolean full;

    public static void main(String[] args) throws ReflectiveOperationException {
        new EdgesTest(false).looked();
        new EdgesTest(true).looked();
        refusedByState();
        due.end();
    }

    /** The rows: call, number: good least most, number: .. */
    private EdgesTest(boolean full) {
        this.full = full;
        int s = full ? 11 : 10;
        row("answer", 0, 0, 7, 0, 0, 4, 0, 0, 7, 0, 0, 9);
        row("differ", 0, 0, 7, 0, 0, 4, 1, 0, 4);
        row("goes", 0, 0, 5, 0, 0, 4);
        row("call", 0, 0, 5, 0, 0, 7, 1, 0, 255);
        row("wrap", 0, 0, 5, 0, 0, s, 1, 0, 7, 1, 0, 255);
        row("split", 0, 0, 5, 0, 0, s, 0, 0, s, 4, 1, 7, 1, 0, 255);
        row("clear", 0, 0, 5);
        row("sees", 0, 0, 5, 0, 0, s, 0, 0, 7);
        row("uses", 0, 0, 5, 0, 0, 7);
        row("shape", 0, 0, 5, 0, 0, 7);
        row("count", 0, 0, 5, 1, 0, 7, 3, 0, TODAY, 5, 0, 1000, 50, 0, 99);
        row("sum", 0, 0, 5, 0, 0, 7, 0, 0, 39, 39, 0, 39);
        row("silent", 0, 0, 5);
        row("most", 0, 0, 7, 0, 0, 39, 39, 0, 39);
        row("harm", 0, 0, 5, 0, 0, 7, 1, 0, 4);
        row("rule", 0, 0, 7, 1, 1, 255, 0, 0, 7, 1, 0, 7);
        row("holds", 0, 0, s, 0, 0, 4, 1, 0, 4);
        row("clash", 0, 0, s, 1, 0, s);
        row("left", 0, 0, 5, 0, 0, 7, 1, 0, 4);
        row("days", 1, 1, 20);
        row("promise", 1, 0, 7, 0, 0, 5, 20, 0, 39);
        row("shut", 1, 0, 7, 30, TODAY, 40);
        row("open", 0, 0, 7);
        row("about", 0, 0, 7, 0, 0, 3);
        row("harmed", 0, 0, 7, 0, 0, 40);
        row("ready", 0, 0, 7);
        row("plan", 0, 0, 1);
        row("told", 0, 0, 4);
        row("trace");
    }

    private void row(String call, int... numbers) {
        int many = numbers.length / 3;
        Row row = new Row(call, new int[many], new int[many], new int[many]);
        for (int i = 0; i < many; i++) {
            row.good[i] = numbers[3 * i];
            row.least[i] = numbers[3 * i + 1];
            row.most[i] = numbers[3 * i + 2];
        }
        rows.add(row);
    }

    private void looked() throws ReflectiveOperationException {
        List<Long> before = told(made(full));
        for (Row row : rows) {
            for (int i = 0; i < row.good.length; i++) {
                int least = row.least[i];
                int most = row.most[i];
                taken(row, i, least);
                taken(row, i, most);
                int[] wrong = {least - 1, most + 1, least - 256, most + 256, -10, Integer.MIN_VALUE, Integer.MAX_VALUE};
                for (int number : wrong) {
                    refused(row, i, number, before);
                }
            }
        }
        for (int number : new int[] {-8, -7, -3, -2}) {
            refused(named("answer"), 3, number, before);
            refused(named("promise"), 2, number, before);
        }
        set(before);
    }

    private Row named(String call) {
        for (Row row : rows) {
            if (row.call.equals(call)) {
                return row;
            }
        }
        return rows.get(0);
    }

    private static int bad(String call) {
        return call.equals("answer") || call.equals("promise") ? -2 : -1;
    }

    private void taken(Row row, int i, int number) throws ReflectiveOperationException {
        int[] numbers = row.good.clone();
        numbers[i] = number;
        long got = asked(made(full), row.call, numbers);
        due.holds(row.call + Arrays.toString(numbers) + " is taken: " + got, got != bad(row.call));
    }

    private void refused(Row row, int i, int number, List<Long> before) throws ReflectiveOperationException {
        int[] numbers = row.good.clone();
        numbers[i] = number;
        WhoCalls x = made(full);
        String call = row.call + Arrays.toString(numbers);
        due.is(call, asked(x, row.call, numbers), bad(row.call));
        due.holds(call + " changes nothing", told(x).equals(before));
    }

    /** What each number of set may be hangs on the first one. */
    private void set(List<Long> before) {
        int[][] wrong = {
            {-1, 0, 1}, {3, 0, 1}, {0, -1, 1}, {0, 8, 1}, {1, -1, 1}, {1, 6, 1}, {0, 0, -1}, {0, 0, 1001},
            {1, 0, -1}, {1, 0, 1001}, {2, 0, -1}, {2, 0, 1001}, {2, 9, -9}, {Integer.MIN_VALUE, 0, 1},
            {Integer.MAX_VALUE, 0, 1}, {0, Integer.MIN_VALUE, 1}, {0, Integer.MAX_VALUE, 1},
            {1, Integer.MIN_VALUE, 1}, {1, Integer.MAX_VALUE, 1}, {2, 0, Integer.MIN_VALUE}, {2, 0, Integer.MAX_VALUE}
        };
        for (int[] numbers : wrong) {
            WhoCalls x = made(full);
            due.is("set" + Arrays.toString(numbers), x.set(numbers[0], numbers[1], numbers[2]), -1);
            due.holds("set" + Arrays.toString(numbers) + " changes nothing", told(x).equals(before));
        }
        int[][] right = {
            {0, 0, 0}, {0, 7, 1000}, {1, 0, 1000}, {1, 5, 0}, {2, -1, 0}, {2, 8, 1000},
            {2, Integer.MIN_VALUE, 0}, {2, Integer.MAX_VALUE, 1000}
        };
        for (int[] numbers : right) {
            int got = made(full).set(numbers[0], numbers[1], numbers[2]);
            due.holds("set" + Arrays.toString(numbers) + " is taken: " + got, got != -1);
        }
    }

    private static long asked(WhoCalls x, String call, int... numbers) throws ReflectiveOperationException {
        Class<?>[] types = new Class<?>[numbers.length];
        Object[] arguments = new Object[numbers.length];
        for (int i = 0; i < numbers.length; i++) {
            types[i] = int.class;
            arguments[i] = numbers[i];
        }
        Method method = WhoCalls.class.getMethod(call, types);
        return ((Number) method.invoke(x, arguments)).longValue();
    }

    /**
     * An object in which something stands everywhere; a full one has no room for statements of houses 0
     * and 5 or rules, and doors 1 and 7 are shut.
     */
    private static WhoCalls made(boolean full) {
        WhoCalls x = new WhoCalls();
        x.answer(0, 0, 0, 3);
        x.answer(7, 0, 7, 3);
        for (int version = 1; version < 5; version++) {
            x.version();
            x.answer(0, version, 1, version);
        }
        for (int house = 0; house < 6; house += 5) {
            x.call(house, 0, 3);
            x.call(house, 7, 128);
            for (int s = 2; s < (full ? 12 : 11); s++) {
                x.wrap(house, s - 1, 1, 1);
            }
            x.goes(house, 3);
        }
        for (int i = 0; i < (full ? 12 : 11); i++) {
            x.rule(i % 2, 3, 0, i % 8);
        }
        x.days(TODAY);
        x.count(0, 0, 5, 7, 0);
        x.count(5, 7, TODAY, 7, 99);
        x.promise(3, 3, 25);
        x.shut(0, 26);
        x.shut(1, full ? TODAY : 27);
        x.shut(7, full ? TODAY : 28);
        x.set(0, 3, 4);
        x.set(1, 0, 9);
        x.set(2, 0, 50);
        x.sees(0, 5, 0);
        return x;
    }

    /** All that can be asked of an object in the calls that are left to it. */
    private static List<Long> told(WhoCalls x) {
        List<Long> all = new ArrayList<>();
        all.add(x.trace());
        for (int what = 0; what < 5; what++) {
            all.add((long) x.told(what));
        }
        all.add((long) x.plan(0));
        all.add((long) x.plan(1));
        toldOfDoors(x, all);
        toldOfHouses(x, all);
        for (int i = 0; i < 12; i++) {
            all.add((long) x.holds(i, 0, 4));
            all.add((long) x.clash(0, i));
        }
        toldBySetting(x, all);
        return all;
    }

    private static void toldOfDoors(WhoCalls x, List<Long> all) {
        for (int face = 0; face < 8; face++) {
            for (int what = 0; what < 4; what++) {
                all.add((long) x.about(face, what));
            }
            all.add((long) x.ready(face));
            all.add((long) x.harmed(face, TODAY));
            all.add((long) x.most(face, 0, 39));
            all.add((long) x.most(face, 0, TODAY - 1));
            all.add((long) x.differ(face, 0, 4));
            all.add((long) x.differ(face, 3, 4));
        }
    }

    private static void toldOfHouses(WhoCalls x, List<Long> all) {
        for (int house = 0; house < 6; house++) {
            all.add((long) x.silent(house));
            for (int face = 0; face < 8; face += 7) {
                all.add((long) x.uses(house, face));
                all.add((long) x.sum(house, face, 0, 39));
                all.add((long) x.left(house, face, 0));
                all.add((long) x.harm(house, face, 0));
            }
        }
    }

    private static void toldBySetting(WhoCalls x, List<Long> all) {
        for (int cell = 0; cell < 80; cell++) {
            all.add((long) x.answer(cell / 40 * 7, cell % 5, cell / 5 % 8, -9));
        }
        for (int house = 0; house < 6; house++) {
            all.add((long) x.goes(house, 0));
            all.add((long) x.clear(house));
            all.add((long) x.set(1, house, 0));
            all.add((long) x.count(house, 4, 0, 0, 0));
            all.add((long) x.count(house, 4, 0, 0, 99));
            all.add((long) x.promise(3, house, -9));
            all.add((long) x.promise(0, house, -9));
        }
        for (int face = 0; face < 8; face++) {
            all.add((long) x.set(0, face, 0));
        }
        all.add((long) x.set(2, 0, 0));
    }

    /** What is refused by STATE or FULL, or told as TWICE, changes nothing. */
    private static void refusedByState() throws ReflectiveOperationException {
        List<Long> before = told(made(true));
        unchanged(before, -3, "version");
        unchanged(before, -3, "call", 0, 0, 255);
        unchanged(before, -3, "wrap", 5, 11, 1, 255);
        unchanged(before, -3, "split", 0, 0, 11, 4, 255);
        unchanged(before, -3, "rule", 0, 255, 1, 3);
        unchanged(before, 0, "count", 0, 7, TODAY, 9, 0);
        unchanged(before, 0, "count", 5, 1, TODAY, 9, 99);
        unchanged(before, -3, "promise", 1, 0, 39);
        unchanged(before, -3, "promise", 7, 5, -9);
        unchanged(before, -2, "shut", 1, 40);
        unchanged(before, -2, "shut", 3, 25);
        unchanged(before, -2, "shut", 3, TODAY);
        unchanged(before, -2, "open", 2);
        WhoCalls x = made(true);
        WhoCalls y = made(true);
        x.days(20);
        y.days(20);
        due.is("days[1] on day 39", x.days(1), -2);
        due.is("days[20] on day 39", x.days(20), -2);
        due.holds("days on day 39 changes nothing", told(x).equals(told(y)));
    }

    private static void unchanged(List<Long> before, int refusal, String call, int... numbers)
            throws ReflectiveOperationException {
        WhoCalls x = made(true);
        due.is(call + Arrays.toString(numbers), asked(x, call, numbers), refusal);
        due.holds(call + Arrays.toString(numbers) + " changes nothing", told(x).equals(before));
    }
}
