import java.util.ArrayList;
import java.util.List;

/**
 * The document once more, in its plainest and slowest form, for runs of calls to be held against:
 * logs instead of sums, sets asked through the tree of statements, all 256 plans tried.
 */
final class Model {
    private record Statement(int kind, int s, int t, int number, int face, int set) { }

    private record Count(int house, int face, int day, int n, int mark) { }

    private record Rule(int face, int set, int to, int d) { }

    private final List<int[][]> versions = new ArrayList<>();
    private final List<List<Statement>> texts = new ArrayList<>();
    private final List<Count> counts = new ArrayList<>();
    private final List<Rule> rules = new ArrayList<>();
    private final int[] goesBy = new int[6];
    private final int[][] promises = new int[8][6];
    private final int[] shuts = new int[8];
    private final int[] surprises = new int[8];
    private final int[] costs = new int[8];
    private final int[] hours = new int[6];
    private int most = 100;
    private int today = 0;
    private long trace = 0;

    Model() {
        int[][] refused = new int[8][8];
        for (int face = 0; face < 8; face++) {
            for (int k = 0; k < 8; k++) {
                refused[face][k] = -9;
            }
            for (int house = 0; house < 6; house++) {
                promises[face][house] = -9;
            }
            shuts[face] = -9;
        }
        versions.add(refused);
        for (int house = 0; house < 6; house++) {
            texts.add(new ArrayList<>());
        }
    }

    private static boolean in(int low, int n, int high) {
        return low <= n && n <= high;
    }

    private boolean known(int version) {
        return in(0, version, versions.size() - 1);
    }

    private static boolean door(int face) {
        return in(0, face, 7);
    }

    private static boolean home(int house) {
        return in(0, house, 5);
    }

    private boolean written(int house, int s) {
        return in(0, s, texts.get(house).size() - 1);
    }

    int version() {
        if (versions.size() == 5) {
            return -3;
        }
        int[][] copy = new int[8][];
        for (int face = 0; face < 8; face++) {
            copy[face] = versions.get(versions.size() - 1)[face].clone();
        }
        versions.add(copy);
        return versions.size() - 1;
    }

    int answer(int face, int version, int argument, int v) {
        if (!door(face) || !known(version) || !in(0, argument, 7) || !(v == -9 || in(0, v, 9))) {
            return -2;
        }
        int was = versions.get(version)[face][argument];
        versions.get(version)[face][argument] = v;
        return was;
    }

    int differ(int face, int one, int other) {
        if (!door(face) || !known(one) || !known(other)) {
            return -1;
        }
        int bits = 0;
        for (int k = 0; k < 8; k++) {
            if (versions.get(one)[face][k] != versions.get(other)[face][k]) {
                bits += 1 << k;
            }
        }
        return bits;
    }

    int goes(int house, int version) {
        if (!home(house) || !known(version)) {
            return -1;
        }
        int was = goesBy[house];
        goesBy[house] = version;
        return was;
    }

    private int written(int house, Statement statement) {
        if (texts.get(house).size() == 12) {
            return -3;
        }
        texts.get(house).add(statement);
        return texts.get(house).size() - 1;
    }

    int call(int house, int face, int set) {
        if (!home(house) || !door(face) || !in(0, set, 255)) {
            return -1;
        }
        return written(house, new Statement(0, -1, -1, -1, face, set));
    }

    int wrap(int house, int s, int d, int set) {
        if (!home(house) || !written(house, s) || !in(0, d, 7) || !in(0, set, 255)) {
            return -1;
        }
        return written(house, new Statement(1, s, -1, d, -1, set));
    }

    int split(int house, int s, int t, int m, int set) {
        if (!home(house) || !written(house, s) || !written(house, t) || !in(1, m, 7) || !in(0, set, 255)) {
            return -1;
        }
        return written(house, new Statement(2, s, t, m, -1, set));
    }

    int clear(int house) {
        if (!home(house)) {
            return -1;
        }
        int was = texts.get(house).size();
        texts.get(house).clear();
        return was;
    }

    /** What a statement sees of a door, of some arguments; what it costs comes to steps[0]. */
    private int asked(int house, int s, int face, int arguments, long[] steps) {
        if (arguments == 0) {
            return 0;
        }
        Statement statement = texts.get(house).get(s);
        if (statement.kind() == 0) {
            steps[0] += 1;
            return statement.face() == face ? arguments : 0;
        }
        int first = 0;
        int second = 0;
        for (int k = 0; k < 8; k++) {
            if ((arguments & 1 << k) == 0) {
                continue;
            }
            if (statement.kind() == 1) {
                first |= 1 << (k + statement.number()) % 8;
            } else if (k < statement.number()) {
                first |= 1 << k;
            } else {
                second |= 1 << k;
            }
        }
        steps[0] += statement.kind() == 1 ? 10 : 100;
        int seen = asked(house, statement.s(), face, first, steps);
        return statement.kind() == 1 ? seen : seen | asked(house, statement.t(), face, second, steps);
    }

    private int seen(int house, int s, int face, long[] steps) {
        return asked(house, s, face, texts.get(house).get(s).set(), steps);
    }

    int sees(int house, int s, int face) {
        if (!home(house) || !written(house, s) || !door(face)) {
            return -1;
        }
        long[] steps = {0};
        int bits = seen(house, s, face, steps);
        trace += steps[0];
        return bits;
    }

    int uses(int house, int face) {
        if (!home(house) || !door(face)) {
            return -1;
        }
        int bits = 0;
        for (int s = 0; s < texts.get(house).size(); s++) {
            bits |= seen(house, s, face, new long[1]);
        }
        return bits;
    }

    int shape(int house, int face) {
        int bits = uses(house, face);
        if (bits == -1) {
            return -1;
        }
        int many = 0;
        for (int k = 0; k < 8; k++) {
            many += bits >> k & 1;
        }
        return many == 8 ? 3 : Math.min(many, 2);
    }

    int count(int house, int face, int day, int n, int mark) {
        if (!home(house) || !door(face) || !in(0, day, today) || !in(0, n, 1000) || !in(0, mark, 99)) {
            return -1;
        }
        for (Count c : counts) {
            if (c.house() == house && c.mark() == mark) {
                return 0;
            }
        }
        counts.add(new Count(house, face, day, n, mark));
        boolean done = shuts[face] != -9 && shuts[face] <= today;
        if (done && n > 0 && day >= shuts[face]) {
            shuts[face] = -9;
            surprises[face]++;
        }
        return 1;
    }

    int sum(int house, int face, int from, int to) {
        if (!home(house) || !door(face) || !in(0, from, 39) || !in(from, to, 39)) {
            return -1;
        }
        int sum = 0;
        for (Count c : counts) {
            if (c.house() == house && c.face() == face && in(from, c.day(), to)) {
                sum += c.n();
            }
        }
        return sum;
    }

    int silent(int house) {
        if (!home(house)) {
            return -1;
        }
        for (Count c : counts) {
            if (c.house() == house) {
                return 0;
            }
        }
        return texts.get(house).isEmpty() ? 1 : 0;
    }

    int most(int face, int from, int to) {
        if (!door(face) || !in(0, from, 39) || !in(from, to, 39)) {
            return -1;
        }
        int all = 0;
        for (int house = 0; house < 6; house++) {
            for (int day = from; day <= to; day++) {
                all += silent(house) == 1 ? most : sum(house, face, day, day);
            }
        }
        return all;
    }

    int harm(int house, int face, int version) {
        if (!home(house) || !door(face) || !known(version)) {
            return -1;
        }
        if (silent(house) == 1) {
            return 3;
        }
        int differ = differ(face, goesBy[house], version);
        if ((uses(house, face) & differ) == 0) {
            return 0;
        }
        for (int s = 0; s < texts.get(house).size(); s++) {
            int bits = seen(house, s, face, new long[1]);
            if (bits != 0 && (bits & differ) == bits) {
                return 2;
            }
        }
        return 1;
    }

    int rule(int face, int set, int to, int d) {
        if (!door(face) || !in(1, set, 255) || !door(to) || !in(0, d, 7)) {
            return -1;
        }
        if (rules.size() == 12) {
            return -3;
        }
        rules.add(new Rule(face, set, to, d));
        return rules.size() - 1;
    }

    int holds(int rule, int one, int other) {
        if (!in(0, rule, rules.size() - 1) || !known(one) || !known(other)) {
            return -1;
        }
        Rule r = rules.get(rule);
        for (int k = 0; k < 8; k++) {
            int was = versions.get(one)[r.face()][k];
            int becomes = versions.get(other)[r.to()][(k + r.d()) % 8];
            if ((r.set() & 1 << k) != 0 && was != becomes) {
                return 0;
            }
        }
        return 1;
    }

    int clash(int rule, int other) {
        if (!in(0, rule, rules.size() - 1) || !in(0, other, rules.size() - 1)) {
            return -1;
        }
        Rule a = rules.get(rule);
        Rule b = rules.get(other);
        for (int k = 0; k < 8; k++) {
            boolean common = (a.set() & b.set() & 1 << k) != 0 && a.face() == b.face();
            if (common && (a.to() != b.to() || (k + a.d()) % 8 != (k + b.d()) % 8)) {
                return 1;
            }
        }
        return 0;
    }

    int left(int house, int face, int version) {
        if (!home(house) || !door(face) || !known(version)) {
            return -1;
        }
        int bits = uses(house, face) & differ(face, goesBy[house], version);
        for (int i = 0; i < rules.size(); i++) {
            if (rules.get(i).face() == face && holds(i, goesBy[house], version) == 1) {
                bits &= 255 - rules.get(i).set();
            }
        }
        return bits;
    }

    int days(int n) {
        if (!in(1, n, 20)) {
            return -1;
        }
        if (today + n > 39) {
            return -2;
        }
        today += n;
        return today;
    }

    private boolean isShut(int face) {
        return shuts[face] != -9 && shuts[face] <= today;
    }

    int promise(int face, int house, int day) {
        if (!door(face) || !home(house) || !(day == -9 || in(0, day, 39))) {
            return -2;
        }
        if (isShut(face)) {
            return -3;
        }
        int was = promises[face][house];
        promises[face][house] = day;
        if (shuts[face] != -9 && day >= shuts[face]) {
            shuts[face] = day + 1;
        }
        return was;
    }

    private boolean promised(int face, int day) {
        for (int until : promises[face]) {
            if (until != -9 && until >= day) {
                return true;
            }
        }
        return false;
    }

    int shut(int face, int day) {
        if (!door(face) || !in(today, day, 40)) {
            return -1;
        }
        if (isShut(face) || promised(face, day)) {
            return -2;
        }
        shuts[face] = day;
        return day;
    }

    int open(int face) {
        if (!door(face)) {
            return -1;
        }
        if (shuts[face] == -9) {
            return -2;
        }
        int was = shuts[face];
        shuts[face] = -9;
        return was;
    }

    int about(int face, int what) {
        if (!door(face) || !in(0, what, 3)) {
            return -1;
        }
        int latest = -9;
        for (int until : promises[face]) {
            latest = Math.max(latest, until);
        }
        return new int[] {shuts[face], isShut(face) ? 1 : 0, latest, surprises[face]}[what];
    }

    int harmed(int face, int day) {
        if (!door(face) || !in(0, day, 40)) {
            return -1;
        }
        int many = 0;
        for (int house = 0; house < 6; house++) {
            boolean harmed = uses(house, face) != 0;
            for (Count c : counts) {
                harmed |= c.house() == house && c.face() == face && c.n() > 0 && in(day - 7, c.day(), day);
            }
            many += harmed ? 1 : 0;
        }
        return many;
    }

    int ready(int face) {
        if (!door(face)) {
            return -1;
        }
        for (int day = today; day <= 40; day++) {
            if (harmed(face, day) == 0 && !promised(face, day)) {
                return day;
            }
        }
        return -9;
    }

    int set(int what, int which, int v) {
        boolean there = what == 0 && door(which) || what == 1 && home(which) || what == 2;
        if (!there || !in(0, v, 1000)) {
            return -1;
        }
        int was;
        if (what == 0) {
            was = costs[which];
            costs[which] = v;
        } else if (what == 1) {
            was = hours[which];
            hours[which] = v;
        } else {
            was = most;
            most = v;
        }
        return was;
    }

    int plan(int what) {
        if (!in(0, what, 1)) {
            return -1;
        }
        int[] lost = new int[8];
        int bound = 0;
        for (int face = 0; face < 8; face++) {
            for (int house = 0; house < 6; house++) {
                lost[face] += uses(house, face) != 0 ? hours[house] : 0;
            }
            bound |= promised(face, today + 1) ? 1 << face : 0;
        }
        int best = -1;
        int least = Integer.MAX_VALUE;
        for (int kept = 0; kept < 256; kept++) {
            int cost = 0;
            for (int face = 0; face < 8; face++) {
                cost += (kept & 1 << face) != 0 ? costs[face] : lost[face];
            }
            if ((kept & bound) == bound && cost < least) {
                least = cost;
                best = kept;
            }
        }
        return what == 0 ? best : least;
    }

    int told(int what) {
        if (!in(0, what, 4)) {
            return -1;
        }
        int silent = 0;
        for (int house = 0; house < 6; house++) {
            silent += silent(house);
        }
        int shut = 0;
        for (int face = 0; face < 8; face++) {
            shut += isShut(face) ? 1 : 0;
        }
        return new int[] {versions.size(), today, rules.size(), silent, shut}[what];
    }

    long trace() {
        return trace;
    }
}
