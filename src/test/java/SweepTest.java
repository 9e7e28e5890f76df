/** Each DAY against each other DAY: promises, shuts, counts and today, with no pair left out. */
public final class SweepTest {
    private static final Due due = new Due("SweepTest");

    public static void main(String[] args) {
        promisedThenShut();
        shutThenPromised();
        promisedAndToday();
        shutAndToday();
        countedAndShut();
        spans();
        due.end();
    }

    private static WhoCalls on(int today) {
        WhoCalls x = new WhoCalls();
        moved(x, today);
        return x;
    }

    private static void moved(WhoCalls x, int days) {
        for (int left = days; left > 0; left -= 20) {
            x.days(Math.min(left, 20));
        }
    }

    private static void promisedThenShut() {
        due.said("It is REFUSED, if some HOUSE has a PROMISE of it up to that DAY or beyond");
        for (int until = 0; until < 40; until++) {
            for (int day = 0; day <= 40; day++) {
                WhoCalls x = new WhoCalls();
                x.promise(day % 8, until % 6, until);
                int want = day <= until ? -2 : day;
                due.is("promised up to " + until + ", shut on " + day, x.shut(day % 8, day), want);
                due.is("its day", x.about(day % 8, 0), day <= until ? -9 : day);
            }
        }
    }

    private static void shutThenPromised() {
        due.said("a PROMISE that is made later moves it to the DAY behind");
        for (int until = 0; until < 40; until++) {
            for (int day = 1; day <= 40; day++) {
                WhoCalls x = new WhoCalls();
                x.shut(until % 8, day);
                due.is("promise", x.promise(until % 8, day % 6, until), -9);
                int want = day <= until ? until + 1 : day;
                due.is("shut on " + day + ", promised up to " + until, x.about(until % 8, 0), want);
            }
        }
    }

    private static void promisedAndToday() {
        due.said("a DOOR with a PROMISE beyond TODAY is kept; READY: no PROMISE of it up to that DAY or beyond");
        for (int today = 0; today < 40; today++) {
            WhoCalls x = on(today);
            for (int until = 0; until < 40; until++) {
                int face = until % 8;
                x.promise(face, today % 6, until);
                String pair = "today " + today + ", promised up to " + until;
                due.is("plan(0), " + pair, x.plan(0), until > today ? 1 << face : 0);
                due.is("ready, " + pair, x.ready(face), Math.max(today, until + 1));
                due.is("about 2, " + pair, x.about(face, 2), until);
                due.is("what it was, " + pair, x.promise(face, today % 6, -9), until);
            }
        }
    }

    private static void shutAndToday() {
        due.said("SHUT of a DOOR on a DAY from TODAY on; A SHUT whose DAY has come is done");
        for (int today = 0; today < 40; today++) {
            for (int day = 0; day <= 40; day++) {
                WhoCalls x = on(today);
                String pair = "today " + today + ", shut on " + day;
                due.is(pair, x.shut(2, day), day < today ? -1 : day);
                due.is("is it done: " + pair, x.about(2, 1), day == today ? 1 : 0);
                WhoCalls y = new WhoCalls();
                y.shut(2, day);
                moved(y, today);
                due.is("has it come: " + pair, y.about(2, 1), day <= today ? 1 : 0);
                due.is("told(4): " + pair, y.told(4), day <= today ? 1 : 0);
                due.is("open: " + pair, y.open(2), day);
            }
        }
    }

    private static void countedAndShut() {
        due.said("a COUNT above 0 of it, of that DAY or one behind it, takes it back, and is a SURPRISE");
        for (int shut = 0; shut < 40; shut++) {
            for (int day = 0; day < 40; day++) {
                WhoCalls x = new WhoCalls();
                x.shut(6, shut);
                moved(x, 39);
                due.is("count", x.count(day % 6, 6, day, 1 + shut, day), 1);
                String pair = "shut on " + shut + ", counted on " + day;
                due.is(pair, x.about(6, 0), day >= shut ? -9 : shut);
                due.is("surprises: " + pair, x.about(6, 3), day >= shut ? 1 : 0);
            }
        }
    }

    private static void spans() {
        due.said("What was COUNTED on DAYS from .. to; and for each SILENT one MOST a DAY");
        for (int from = 0; from < 40; from++) {
            WhoCalls x = counted();
            int[] sums = new int[2];
            for (int to = 0; to < 40; to++) {
                String span = from + " .. " + to;
                sums[to % 2] += to < from ? 0 : sent(to);
                due.is("sum of house 0, " + span, x.sum(0, 1, from, to), to < from ? -1 : sums[0]);
                due.is("sum of house 1, " + span, x.sum(1, 1, from, to), to < from ? -1 : sums[1]);
                int most = sums[0] + sums[1] + 4 * 100 * (to - from + 1);
                due.is("most, " + span, x.most(1, from, to), to < from ? -1 : most);
            }
        }
    }

    /** House 0 sends a count of each even day, house 1 of each odd one. */
    private static WhoCalls counted() {
        WhoCalls x = on(39);
        for (int day = 0; day < 40; day++) {
            x.count(day % 2, 1, day, sent(day), day);
        }
        return x;
    }

    private static int sent(int day) {
        return 1 + day * day % 700;
    }
}
