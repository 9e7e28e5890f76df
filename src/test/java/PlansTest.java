/** Promises 29 to 31: set, plan, told. */
public final class PlansTest {
    private static final Due due = new Due("PlansTest");

    public static void main(String[] args) {
        set();
        setRefused();
        plan();
        planWithPromises();
        told();
        due.end();
    }

    private static void set() {
        WhoCalls x = new WhoCalls();
        due.is("set(0, 7, 1000)", x.set(0, 7, 1000), 0);
        due.is("set(0, 7, 0)", x.set(0, 7, 0), 1000);
        due.is("set(0, 0, 5)", x.set(0, 0, 5), 0);
        due.is("set(1, 0, 6)", x.set(1, 0, 6), 0);
        due.is("set(1, 5, 1000)", x.set(1, 5, 1000), 0);
        due.is("set(1, 5, 1)", x.set(1, 5, 1), 1000);
        due.is("set(0, 0, 1)", x.set(0, 0, 1), 5);
        due.is("set(1, 0, 1)", x.set(1, 0, 1), 6);
        due.is("set(2, MIN, 0)", x.set(2, Integer.MIN_VALUE, 0), 100);
        due.is("set(2, MAX, 1000)", x.set(2, Integer.MAX_VALUE, 1000), 0);
        due.is("set(2, 0, 1)", x.set(2, 0, 1), 1000);
    }

    private static void setRefused() {
        WhoCalls x = new WhoCalls();
        due.is("set(-1, 0, 0)", x.set(-1, 0, 0), -1);
        due.is("set(3, 0, 0)", x.set(3, 0, 0), -1);
        due.is("set(0, -1, 0)", x.set(0, -1, 0), -1);
        due.is("set(0, 8, 0)", x.set(0, 8, 0), -1);
        due.is("set(1, -1, 0)", x.set(1, -1, 0), -1);
        due.is("set(1, 6, 0)", x.set(1, 6, 0), -1);
        for (int what = 0; what < 3; what++) {
            due.is("set(what, 0, -1)", x.set(what, 0, -1), -1);
            due.is("set(what, 0, 1001)", x.set(what, 0, 1001), -1);
        }
        due.is("set(0, 0, 0)", x.set(0, 0, 0), 0);
        due.is("set(1, 0, 0)", x.set(1, 0, 0), 0);
        due.is("set(2, 0, 0)", x.set(2, 0, 0), 100);
    }

    private static void plan() {
        WhoCalls x = new WhoCalls();
        due.is("plan(-1)", x.plan(-1), -1);
        due.is("plan(2)", x.plan(2), -1);
        x.set(1, 0, 10);
        x.set(1, 1, 20);
        x.set(1, 2, 1000);
        x.set(0, 3, 29);
        x.set(0, 4, 1000);
        x.call(0, 3, 1);
        x.call(0, 3, 2);
        x.call(1, 3, 255);
        x.call(2, 3, 0);
        // Doors that cost nothing are kept only if some house uses them.
        due.is("plan(0)", x.plan(0), 8);
        due.is("plan(1)", x.plan(1), 29);
        x.set(0, 3, 30);
        due.is("the same either way: the least number", x.plan(0), 0);
        due.is("plan(1)", x.plan(1), 30);
        x.set(0, 3, 31);
        due.is("plan(0)", x.plan(0), 0);
        due.is("plan(1)", x.plan(1), 30);
        x.call(1, 7, 1);
        due.is("a door that costs nothing and is used", x.plan(0), 128);
        due.is("plan(1)", x.plan(1), 30);
        x.set(1, 1, 0);
        due.is("used by a house with no hours", x.plan(0), 0);
        due.is("plan(1)", x.plan(1), 10);
        x.count(3, 4, 0, 1000, 0);
        x.set(1, 3, 1000);
        due.is("a count is no use", x.plan(1), 10);
    }

    private static void planWithPromises() {
        WhoCalls x = new WhoCalls();
        x.set(0, 6, 77);
        x.promise(6, 0, 0);
        due.is("a promise up to today", x.plan(0), 0);
        x.promise(6, 0, 1);
        due.is("a promise beyond today", x.plan(0), 64);
        due.is("plan(1)", x.plan(1), 77);
        x.promise(0, 5, 2);
        due.is("two", x.plan(0), 65);
        x.days(1);
        due.is("its day has come", x.plan(0), 1);
        due.is("plan(1)", x.plan(1), 0);
        x.days(1);
        due.is("both have", x.plan(0), 0);
        x.promise(6, 0, 39);
        x.set(1, 4, 80);
        x.call(4, 6, 1);
        x.call(4, 5, 1);
        x.set(0, 5, 90);
        due.is("kept, so the house loses another door", x.plan(0), 64);
        due.is("plan(1)", x.plan(1), 157);
        x.set(0, 5, 79);
        due.is("plan(0)", x.plan(0), 96);
        due.is("plan(1)", x.plan(1), 156);
        x.days(20);
        x.days(17);
        x.promise(7, 0, 39);
        due.is("on day 39 no promise is beyond", x.plan(0), 96);
    }

    private static void told() {
        WhoCalls x = new WhoCalls();
        due.is("told(-1)", x.told(-1), -1);
        due.is("told(5)", x.told(5), -1);
        x.version();
        x.version();
        x.days(4);
        x.rule(0, 1, 0, 0);
        x.call(0, 0, 1);
        x.shut(0, 4);
        x.shut(6, 4);
        x.shut(7, 4);
        x.shut(1, 5);
        due.is("told(0)", x.told(0), 3);
        due.is("told(1)", x.told(1), 4);
        due.is("told(2)", x.told(2), 1);
        due.is("told(3)", x.told(3), 5);
        due.is("told(4)", x.told(4), 3);
    }
}
