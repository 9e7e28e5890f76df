import java.util.Arrays;

/**
 * Who still calls: a library's doors by version, and houses whose texts call them, straight or
 * through wrappers. The words in capitals are those of the document.
 */
public final class WhoCalls {
    public static final int BAD = -1, STATE = -2, FULL = -3, NONE = -9;

    // answer and promise tell their refusals by these, one lower than the others.
    private static final int BAD_LOWERED = -2, STATE_LOWERED = -3;

    private static final int DOORS = 8, VERSIONS = 5, ARGUMENTS = 8, HOUSES = 6;
    private static final int STATEMENTS = 12, RULES = 12, DAYS = 40, MARKS = 100;
    private static final int LAST_DAY = 39, LAST_SHUT_DAY = 40, MOST_DAYS_AHEAD = 20, LOOK_BACK = 7;
    private static final int MOST_SET = 255, LAST_ARGUMENT = 7, LAST_ANSWER = 9, MOST_NUMBER = 1000;

    private static final int NOTHING = 0, CONST = 1, FEW = 2, OPEN = 3;
    private static final int SAFE = 0, MAY_BE = 1, SURE = 2, UNKNOWN = 3;

    private final Door[] doors = new Door[DOORS];
    private final House[] houses = new House[HOUSES];
    private final Rule[] rules = new Rule[RULES];
    private int ruleCount = 0;
    private int versionCount = 1;
    private int today = 0;
    private int mostADay = 100;
    private long traced = 0;

    public WhoCalls() {
        for (int face = 0; face < DOORS; face++) {
            doors[face] = new Door();
        }
        for (int house = 0; house < HOUSES; house++) {
            houses[house] = new House();
        }
    }

    // ---- faces, versions

    public int version() {
        if (versionCount >= VERSIONS) {
            return FULL;
        }
        for (Door door : doors) {
            door.copyAnswers(versionCount - 1, versionCount);
        }
        versionCount++;
        return versionCount - 1;
    }

    public int answer(int face, int version, int argument, int v) {
        Door door = doorAt(face);
        if (door == null || !isVersion(version) || !isWithin(argument, LAST_ARGUMENT)) {
            return BAD_LOWERED;
        }
        if (v != NONE && !isWithin(v, LAST_ANSWER)) {
            return BAD_LOWERED;
        }
        int before = door.answerTo(version, argument);
        door.answers[version * ARGUMENTS + argument] = v;
        return before;
    }

    public int differ(int face, int one, int other) {
        Door door = doorAt(face);
        if (door == null || !isVersion(one) || !isVersion(other)) {
            return BAD;
        }
        return door.differing(one, other);
    }

    // ---- houses, texts

    public int goes(int house, int version) {
        House h = houseAt(house);
        if (h == null || !isVersion(version)) {
            return BAD;
        }
        int before = h.version;
        h.version = version;
        return before;
    }

    public int call(int house, int face, int set) {
        House h = houseAt(house);
        if (h == null || !isFace(face) || !isWithin(set, MOST_SET)) {
            return BAD;
        }
        return h.text.addCall(face, set);
    }

    public int wrap(int house, int s, int d, int set) {
        House h = houseAt(house);
        if (h == null || !h.text.has(s) || !isWithin(d, LAST_ARGUMENT) || !isWithin(set, MOST_SET)) {
            return BAD;
        }
        return h.text.addWrap(s, d, set);
    }

    public int split(int house, int s, int t, int m, int set) {
        House h = houseAt(house);
        if (h == null || !h.text.has(s) || !h.text.has(t)) {
            return BAD;
        }
        if (m < 1 || m > LAST_ARGUMENT || !isWithin(set, MOST_SET)) {
            return BAD;
        }
        return h.text.addSplit(s, t, m, set);
    }

    public int clear(int house) {
        House h = houseAt(house);
        if (h == null) {
            return BAD;
        }
        int before = h.text.size;
        h.text.size = 0;
        return before;
    }

    public int sees(int house, int statement, int face) {
        House h = houseAt(house);
        if (h == null || !h.text.has(statement) || !isFace(face)) {
            return BAD;
        }
        traced += h.text.stepsOf(statement);
        return h.text.seenBy(statement, face);
    }

    public int uses(int house, int face) {
        House h = houseAt(house);
        if (h == null || !isFace(face)) {
            return BAD;
        }
        return h.text.used(face);
    }

    public int shape(int house, int face) {
        House h = houseAt(house);
        if (h == null || !isFace(face)) {
            return BAD;
        }
        int arguments = Integer.bitCount(h.text.used(face));
        if (arguments == 0) {
            return NOTHING;
        }
        if (arguments == 1) {
            return CONST;
        }
        return arguments < ARGUMENTS ? FEW : OPEN;
    }

    // ---- counts

    public int count(int house, int face, int day, int n, int mark) {
        House h = houseAt(house);
        Door door = doorAt(face);
        if (h == null || door == null || !isDay(day) || day > today) {
            return BAD;
        }
        if (!isWithin(n, MOST_NUMBER) || !isWithin(mark, MARKS - 1)) {
            return BAD;
        }
        if (h.marks[mark]) {
            return 0;
        }
        h.addCount(face, day, n, mark);
        if (n > 0 && door.isShutOn(day)) {
            door.shutDay = NONE;
            door.surprises++;
        }
        return 1;
    }

    public int sum(int house, int face, int from, int to) {
        House h = houseAt(house);
        if (h == null || !isFace(face) || !isSpan(from, to)) {
            return BAD;
        }
        return h.counted(face, from, to);
    }

    public int silent(int house) {
        House h = houseAt(house);
        if (h == null) {
            return BAD;
        }
        return h.isSilent() ? 1 : 0;
    }

    public int most(int face, int from, int to) {
        if (!isFace(face) || !isSpan(from, to)) {
            return BAD;
        }
        int total = silentHouses() * mostADay * (to - from + 1);
        for (House h : houses) {
            total += h.counted(face, from, to);
        }
        return total;
    }

    // ---- change

    public int harm(int house, int face, int version) {
        House h = houseAt(house);
        Door door = doorAt(face);
        if (h == null || door == null || !isVersion(version)) {
            return BAD;
        }
        if (h.isSilent()) {
            return UNKNOWN;
        }
        int differing = door.differing(h.version, version);
        if ((h.text.used(face) & differing) == 0) {
            return SAFE;
        }
        return h.text.someSeesOnly(face, differing) ? SURE : MAY_BE;
    }

    public int rule(int face, int set, int to, int d) {
        if (!isFace(face) || !isFace(to) || !isWithin(d, LAST_ARGUMENT)) {
            return BAD;
        }
        if (set == 0 || !isWithin(set, MOST_SET)) {
            return BAD;
        }
        if (ruleCount >= RULES) {
            return FULL;
        }
        rules[ruleCount] = new Rule(face, set, to, d);
        ruleCount++;
        return ruleCount - 1;
    }

    public int holds(int rule, int one, int other) {
        Rule r = ruleAt(rule);
        if (r == null || !isVersion(one) || !isVersion(other)) {
            return BAD;
        }
        return isHeld(r, one, other) ? 1 : 0;
    }

    public int clash(int rule, int other) {
        Rule one = ruleAt(rule);
        Rule two = ruleAt(other);
        if (one == null || two == null) {
            return BAD;
        }
        boolean shared = one.face == two.face && (one.set & two.set) != 0;
        return shared && (one.to != two.to || one.d != two.d) ? 1 : 0;
    }

    public int left(int house, int face, int version) {
        House h = houseAt(house);
        Door door = doorAt(face);
        if (h == null || door == null || !isVersion(version)) {
            return BAD;
        }
        int bits = h.text.used(face) & door.differing(h.version, version);
        for (int i = 0; i < ruleCount; i++) {
            Rule r = ruleAt(i);
            if (r != null && r.face == face && isHeld(r, h.version, version)) {
                bits &= ~r.set;
            }
        }
        return bits;
    }

    // ---- days, promises, plans

    public int days(int n) {
        if (n < 1 || n > MOST_DAYS_AHEAD) {
            return BAD;
        }
        if (today + n > LAST_DAY) {
            return STATE;
        }
        today += n;
        return today;
    }

    public int promise(int face, int house, int day) {
        Door door = doorAt(face);
        if (door == null || !isWithin(house, HOUSES - 1) || (day != NONE && !isDay(day))) {
            return BAD_LOWERED;
        }
        if (door.isShutOn(today)) {
            return STATE_LOWERED;
        }
        int before = door.promises[house];
        door.promises[house] = day;
        if (day != NONE && door.isShutOn(day)) {
            door.shutDay = day + 1;
        }
        return before;
    }

    public int shut(int face, int day) {
        Door door = doorAt(face);
        if (door == null || day < today || day > LAST_SHUT_DAY) {
            return BAD;
        }
        if (door.isShutOn(today) || door.isPromised(day)) {
            return STATE;
        }
        door.shutDay = day;
        return day;
    }

    public int open(int face) {
        Door door = doorAt(face);
        if (door == null) {
            return BAD;
        }
        if (door.shutDay == NONE) {
            return STATE;
        }
        int before = door.shutDay;
        door.shutDay = NONE;
        return before;
    }

    public int about(int face, int what) {
        Door door = doorAt(face);
        if (door == null) {
            return BAD;
        }
        switch (what) {
            case 0:
                return door.shutDay;
            case 1:
                return door.isShutOn(today) ? 1 : 0;
            case 2:
                return door.latestPromise();
            case 3:
                return door.surprises;
            default:
                return BAD;
        }
    }

    public int harmed(int face, int day) {
        if (!isFace(face) || !isWithin(day, LAST_SHUT_DAY)) {
            return BAD;
        }
        int harm = 0;
        for (House h : houses) {
            if (h.text.used(face) != 0 || h.calledAround(face, day)) {
                harm++;
            }
        }
        return harm;
    }

    public int ready(int face) {
        Door door = doorAt(face);
        if (door == null) {
            return BAD;
        }
        for (int day = today; day <= LAST_SHUT_DAY; day++) {
            if (harmed(face, day) == 0 && !door.isPromised(day)) {
                return day;
            }
        }
        return NONE;
    }

    public int set(int what, int which, int v) {
        if (!isWithin(v, MOST_NUMBER)) {
            return BAD;
        }
        switch (what) {
            case 0:
                return becomeCost(doorAt(which), v);
            case 1:
                return becomeHours(houseAt(which), v);
            case 2:
                int before = mostADay;
                mostADay = v;
                return before;
            default:
                return BAD;
        }
    }

    public int plan(int what) {
        if (what != 0 && what != 1) {
            return BAD;
        }
        int kept = 0;
        int cost = 0;
        for (int face = 0; face < DOORS; face++) {
            int loss = hoursWithout(face);
            if (isKept(doors[face], loss)) {
                kept |= 1 << face;
                cost += doors[face].cost;
            } else {
                cost += loss;
            }
        }
        return what == 0 ? kept : cost;
    }

    public int told(int what) {
        switch (what) {
            case 0:
                return versionCount;
            case 1:
                return today;
            case 2:
                return ruleCount;
            case 3:
                return silentHouses();
            case 4:
                return shutDoors();
            default:
                return BAD;
        }
    }

    public long trace() {
        return traced;
    }

    // ---- what the calls above share

    private static boolean isWithin(int number, int last) {
        return number >= 0 && number <= last;
    }

    private static boolean isFace(int face) {
        return isWithin(face, DOORS - 1);
    }

    private static boolean isDay(int day) {
        return isWithin(day, LAST_DAY);
    }

    private static boolean isSpan(int from, int to) {
        return isDay(from) && isDay(to) && from <= to;
    }

    private boolean isVersion(int version) {
        return isWithin(version, versionCount - 1);
    }

    private Door doorAt(int face) {
        return isFace(face) ? doors[face] : null;
    }

    private House houseAt(int house) {
        return isWithin(house, HOUSES - 1) ? houses[house] : null;
    }

    private Rule ruleAt(int rule) {
        return isWithin(rule, ruleCount - 1) ? rules[rule] : null;
    }

    private boolean isHeld(Rule rule, int one, int other) {
        Door from = doorAt(rule.face);
        Door to = doorAt(rule.to);
        if (from == null || to == null) {
            return false;
        }
        for (int v = 0; v < ARGUMENTS; v++) {
            boolean mended = (rule.set >> v & 1) != 0;
            if (mended && from.answerTo(one, v) != to.answerTo(other, (v + rule.d) % ARGUMENTS)) {
                return false;
            }
        }
        return true;
    }

    private int silentHouses() {
        int silent = 0;
        for (House h : houses) {
            if (h.isSilent()) {
                silent++;
            }
        }
        return silent;
    }

    private int shutDoors() {
        int shut = 0;
        for (Door door : doors) {
            if (door.isShutOn(today)) {
                shut++;
            }
        }
        return shut;
    }

    private static int becomeCost(Door door, int v) {
        if (door == null) {
            return BAD;
        }
        int before = door.cost;
        door.cost = v;
        return before;
    }

    private static int becomeHours(House h, int v) {
        if (h == null) {
            return BAD;
        }
        int before = h.hours;
        h.hours = v;
        return before;
    }

    private int hoursWithout(int face) {
        int hours = 0;
        for (House h : houses) {
            if (h.text.used(face) != 0) {
                hours += h.hours;
            }
        }
        return hours;
    }

    // The cost of a set is a sum over doors, so each door may be decided alone; a door that costs
    // the same either way is left out, for the least number.
    private boolean isKept(Door door, int loss) {
        return door.isPromised(today + 1) || door.cost < loss;
    }

    /** A door of the library: its answers by version, its shut, its promises and what it costs. */
    private static final class Door {
        private final int[] answers = new int[VERSIONS * ARGUMENTS];
        private final int[] promises = new int[HOUSES];
        private int shutDay = NONE;
        private int surprises = 0;
        private int cost = 0;

        private Door() {
            Arrays.fill(answers, NONE);
            Arrays.fill(promises, NONE);
        }

        private int answerTo(int version, int argument) {
            return answers[version * ARGUMENTS + argument];
        }

        private void copyAnswers(int from, int to) {
            System.arraycopy(answers, from * ARGUMENTS, answers, to * ARGUMENTS, ARGUMENTS);
        }

        private int differing(int one, int other) {
            int bits = 0;
            for (int v = 0; v < ARGUMENTS; v++) {
                if (answerTo(one, v) != answerTo(other, v)) {
                    bits |= 1 << v;
                }
            }
            return bits;
        }

        private int latestPromise() {
            int latest = NONE;
            for (int day : promises) {
                latest = Math.max(latest, day);
            }
            return latest;
        }

        private boolean isPromised(int day) {
            return latestPromise() >= day;
        }

        private boolean isShutOn(int day) {
            return shutDay != NONE && shutDay <= day;
        }
    }

    /** A house: the version it goes by, its text and the counts that it sent. */
    private static final class House {
        private final Text text = new Text();
        private final int[] counts = new int[DOORS * DAYS];
        private final boolean[] marks = new boolean[MARKS];
        private boolean hasCounts = false;
        private int version = 0;
        private int hours = 0;

        private void addCount(int face, int day, int n, int mark) {
            marks[mark] = true;
            hasCounts = true;
            counts[face * DAYS + day] += n;
        }

        private int counted(int face, int from, int to) {
            int total = 0;
            for (int day = from; day <= to; day++) {
                total += counts[face * DAYS + day];
            }
            return total;
        }

        // No day behind the last holds counts, so the look back from day 40 ends at 39.
        private boolean calledAround(int face, int day) {
            return counted(face, Math.max(day - LOOK_BACK, 0), Math.min(day, LAST_DAY)) > 0;
        }

        // A count of 0 is a count too: who sends it is not silent.
        private boolean isSilent() {
            return text.size == 0 && !hasCounts;
        }
    }

    /** The text of a house: its statements, a row for each of their parts. */
    private static final class Text {
        private static final int CALL = 0, WRAP = 1, SPLIT = 2;
        private static final int CALL_STEP = 1, WRAP_STEP = 10, SPLIT_STEP = 100;

        private final int[] kinds = new int[STATEMENTS];
        private final int[] firsts = new int[STATEMENTS];
        private final int[] seconds = new int[STATEMENTS];
        private final int[] numbers = new int[STATEMENTS];
        private final int[] sets = new int[STATEMENTS];
        // For each statement and argument, the face * ARGUMENTS + argument that it comes to: known
        // when the statement is added, as it names none but lesser ones, which never change.
        private final int[] ends = new int[STATEMENTS * ARGUMENTS];
        private int size = 0;

        private boolean has(int s) {
            return isWithin(s, size - 1);
        }

        private int addCall(int face, int set) {
            if (size >= STATEMENTS) {
                return FULL;
            }
            for (int v = 0; v < ARGUMENTS; v++) {
                ends[size * ARGUMENTS + v] = face * ARGUMENTS + v;
            }
            return added(CALL, 0, 0, 0, set);
        }

        private int addWrap(int s, int d, int set) {
            if (size >= STATEMENTS) {
                return FULL;
            }
            for (int v = 0; v < ARGUMENTS; v++) {
                ends[size * ARGUMENTS + v] = ends[s * ARGUMENTS + (v + d) % ARGUMENTS];
            }
            return added(WRAP, s, s, d, set);
        }

        private int addSplit(int s, int t, int m, int set) {
            if (size >= STATEMENTS) {
                return FULL;
            }
            for (int v = 0; v < ARGUMENTS; v++) {
                ends[size * ARGUMENTS + v] = ends[(v < m ? s : t) * ARGUMENTS + v];
            }
            return added(SPLIT, s, t, m, set);
        }

        private int added(int kind, int first, int second, int number, int set) {
            kinds[size] = kind;
            firsts[size] = first;
            seconds[size] = second;
            numbers[size] = number;
            sets[size] = set;
            size++;
            return size - 1;
        }

        private int seenBy(int s, int face) {
            int bits = 0;
            for (int v = 0; v < ARGUMENTS; v++) {
                int end = ends[s * ARGUMENTS + v];
                if ((sets[s] >> v & 1) != 0 && end / ARGUMENTS == face) {
                    bits |= 1 << end % ARGUMENTS;
                }
            }
            return bits;
        }

        private int used(int face) {
            int bits = 0;
            for (int s = 0; s < size; s++) {
                bits |= seenBy(s, face);
            }
            return bits;
        }

        private boolean someSeesOnly(int face, int allowed) {
            for (int s = 0; s < size; s++) {
                int seen = seenBy(s, face);
                if (seen != 0 && (seen & ~allowed) == 0) {
                    return true;
                }
            }
            return false;
        }

        private int stepsOf(int s) {
            return steps(this, s, sets[s], 0);
        }

        // Each way through the text is counted apart, so the ends do not tell it.
        private static int steps(Text text, int s, int asked, int depth) {
            if (asked == 0 || depth >= STATEMENTS || !text.has(s)) {
                return 0;
            }
            int number = text.numbers[s];
            switch (text.kinds[s]) {
                case CALL:
                    return CALL_STEP;
                case WRAP:
                    return WRAP_STEP + steps(text, text.firsts[s], turned(asked, number), depth + 1);
                default:
                    int below = (1 << number) - 1;
                    return SPLIT_STEP + steps(text, text.firsts[s], asked & below, depth + 1)
                            + steps(text, text.seconds[s], asked & ~below, depth + 1);
            }
        }

        private static int turned(int set, int d) {
            return (set << d | set >> ARGUMENTS - d) & MOST_SET;
        }
    }

    /** A rule that mends calls: arguments of one door in a set become, of another, those + d. */
    private static final class Rule {
        private final int face;
        private final int set;
        private final int to;
        private final int d;

        private Rule(int face, int set, int to, int d) {
            this.face = face;
            this.set = set;
            this.to = to;
            this.d = d;
        }
    }
}
