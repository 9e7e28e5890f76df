/** Promises 22 to 28: days, promise, shut, open, about, harmed, ready. */
public final class DaysTest {
    private static final Due due = new Due("DaysTest");

    public static void main(String[] args) {
        days();
        promise();
        promiseMovesShut();
        shut();
        surprise();
        open();
        about();
        harmed();
        ready();
        due.end();
    }

    private static void days() {
        WhoCalls x = new WhoCalls();
        due.is("days(0)", x.days(0), -1);
        due.is("days(-1)", x.days(-1), -1);
        due.is("days(21)", x.days(21), -1);
        due.is("days(MAX)", x.days(Integer.MAX_VALUE), -1);
        due.is("days(MIN)", x.days(Integer.MIN_VALUE), -1);
        due.is("days(20)", x.days(20), 20);
        due.is("days(20)", x.days(20), -2);
        due.is("days(18)", x.days(18), 38);
        due.is("days(1)", x.days(1), 39);
        due.is("days(1)", x.days(1), -2);
        due.is("BAD goes ahead of STATE", x.days(21), -1);
        due.is("told(1)", x.told(1), 39);
    }

    private static void promise() {
        WhoCalls x = new WhoCalls();
        due.is("promise(-1, 0, 0)", x.promise(-1, 0, 0), -2);
        due.is("promise(8, 0, 0)", x.promise(8, 0, 0), -2);
        due.is("promise(0, -1, 0)", x.promise(0, -1, 0), -2);
        due.is("promise(0, 6, 0)", x.promise(0, 6, 0), -2);
        due.is("promise(0, 0, -1)", x.promise(0, 0, -1), -2);
        due.is("promise(0, 0, -8)", x.promise(0, 0, -8), -2);
        due.is("promise(0, 0, 40)", x.promise(0, 0, 40), -2);
        due.is("about(0, 2)", x.about(0, 2), -9);
        due.is("promise(0, 5, 39)", x.promise(0, 5, 39), -9);
        due.is("promise(0, 5, 0)", x.promise(0, 5, 0), 39);
        due.is("promise(0, 5, -9)", x.promise(0, 5, -9), 0);
        due.is("promise(0, 5, 7)", x.promise(0, 5, 7), -9);
        due.is("promise(7, 5, 8)", x.promise(7, 5, 8), -9);
        due.is("promise(0, 0, 9)", x.promise(0, 0, 9), -9);
        x.days(10);
        due.is("a day that has gone", x.promise(0, 1, 3), -9);
        x.promise(0, 0, -9);
        x.shut(0, 10);
        due.is("the door is shut", x.promise(0, 1, 20), -3);
        due.is("none, the door is shut", x.promise(0, 1, -9), -3);
        due.is("BAD goes ahead of STATE", x.promise(0, 1, 40), -2);
        x.open(0);
        due.is("open again", x.promise(0, 1, 20), 3);
    }

    private static void promiseMovesShut() {
        WhoCalls x = new WhoCalls();
        x.shut(4, 10);
        x.promise(4, 0, 9);
        due.is("a promise up to the day ahead", x.about(4, 0), 10);
        x.promise(4, 1, 10);
        due.is("a promise up to that day", x.about(4, 0), 11);
        x.promise(4, 2, 20);
        due.is("a promise beyond it", x.about(4, 0), 21);
        x.promise(4, 2, -9);
        x.promise(4, 1, 0);
        due.is("a promise taken back leaves it", x.about(4, 0), 21);
        x.promise(3, 0, 39);
        due.is("another door's promise", x.about(4, 0), 21);
        due.is("no shut is planned", x.about(3, 0), -9);
        x.promise(4, 3, 39);
        due.is("a promise to the last day", x.about(4, 0), 40);
    }

    private static void shut() {
        WhoCalls x = new WhoCalls();
        x.days(5);
        due.is("shut(-1, 5)", x.shut(-1, 5), -1);
        due.is("shut(8, 5)", x.shut(8, 5), -1);
        due.is("a day that has gone", x.shut(0, 4), -1);
        due.is("shut(0, 41)", x.shut(0, 41), -1);
        due.is("shut(0, -9)", x.shut(0, -9), -1);
        x.promise(0, 2, 10);
        x.promise(0, 3, 8);
        due.is("before a promise's end", x.shut(0, 9), -2);
        due.is("on a promise's last day", x.shut(0, 10), -2);
        due.is("about(0, 0)", x.about(0, 0), -9);
        due.is("behind it", x.shut(0, 11), 11);
        due.is("a later one takes its place", x.shut(0, 30), 30);
        due.is("one ahead of it too", x.shut(0, 12), 12);
        due.is("one that is refused", x.shut(0, 7), -2);
        due.is("about(0, 0)", x.about(0, 0), 12);
        due.is("another door", x.shut(1, 7), 7);
        due.is("told(4)", x.told(4), 0);
        x.days(2);
        due.is("about(1, 1)", x.about(1, 1), 1);
        due.is("about(0, 1)", x.about(0, 1), 0);
        due.is("told(4)", x.told(4), 1);
        due.is("shut already", x.shut(1, 40), -2);
        due.is("BAD goes ahead of STATE", x.shut(1, 6), -1);
        due.is("today: done at once", x.shut(2, 7), 7);
        due.is("told(4)", x.told(4), 2);
        due.is("shut(3, 40)", x.shut(3, 40), 40);
        x.days(20);
        x.days(12);
        due.is("day 40 never comes", x.about(3, 1), 0);
        due.is("told(4)", x.told(4), 3);
    }

    private static void surprise() {
        WhoCalls x = new WhoCalls();
        x.shut(0, 3);
        x.shut(1, 5);
        x.days(4);
        x.count(0, 0, 2, 9, 0);
        due.is("a count of the day ahead", x.about(0, 1), 1);
        x.count(0, 0, 3, 0, 1);
        due.is("a count of 0", x.about(0, 1), 1);
        x.count(0, 2, 3, 9, 2);
        due.is("a count of another door", x.about(0, 1), 1);
        x.count(0, 0, 4, 9, 0);
        due.is("a count that came before", x.about(0, 1), 1);
        x.count(0, 0, 5, 9, 3);
        due.is("a count that is refused", x.about(0, 1), 1);
        due.is("about(0, 3)", x.about(0, 3), 0);
        x.count(1, 0, 3, 1, 0);
        due.is("a count of that day", x.about(0, 1), 0);
        due.is("no shut is planned", x.about(0, 0), -9);
        due.is("about(0, 3)", x.about(0, 3), 1);
        x.count(1, 0, 3, 1, 1);
        due.is("a count of an open door", x.about(0, 3), 1);
        x.count(1, 1, 4, 1, 2);
        due.is("a count ahead of a planned shut", x.about(1, 0), 5);
        x.shut(0, 4);
        due.is("about(0, 1)", x.about(0, 1), 1);
        x.days(3);
        x.count(1, 0, 7, 1, 3);
        due.is("a count of a day behind", x.about(0, 1), 0);
        due.is("about(0, 3)", x.about(0, 3), 2);
        due.is("open(0)", x.open(0), -2);
        x.open(1);
        due.is("a step back is no surprise", x.about(1, 3), 0);
        // What was counted before the door was shut does not take it back.
        x.shut(0, 7);
        due.is("about(0, 1)", x.about(0, 1), 1);
    }

    private static void open() {
        WhoCalls x = new WhoCalls();
        due.is("open(-1)", x.open(-1), -1);
        due.is("open(8)", x.open(8), -1);
        due.is("there is none", x.open(7), -2);
        x.shut(7, 0);
        x.shut(6, 9);
        due.is("done", x.open(7), 0);
        due.is("planned", x.open(6), 9);
        due.is("there is none", x.open(7), -2);
        due.is("there is none", x.open(6), -2);
        due.is("about(7, 1)", x.about(7, 1), 0);
        due.is("about(6, 0)", x.about(6, 0), -9);
        x.days(9);
        due.is("it is not shut", x.about(6, 1), 0);
        due.is("told(4)", x.told(4), 0);
    }

    private static void about() {
        WhoCalls x = new WhoCalls();
        due.is("about(-1, 0)", x.about(-1, 0), -1);
        due.is("about(8, 0)", x.about(8, 0), -1);
        due.is("about(0, -1)", x.about(0, -1), -1);
        due.is("about(0, 4)", x.about(0, 4), -1);
        x.promise(5, 0, 4);
        x.promise(5, 3, 9);
        x.promise(5, 5, 0);
        due.is("the latest", x.about(5, 2), 9);
        x.promise(5, 3, 2);
        due.is("the latest now", x.about(5, 2), 4);
        x.days(20);
        due.is("one that has gone", x.about(5, 2), 4);
        x.promise(5, 0, -9);
        x.promise(5, 3, -9);
        due.is("day 0", x.about(5, 2), 0);
        x.promise(5, 5, -9);
        due.is("none", x.about(5, 2), -9);
        x.shut(5, 20);
        due.is("the day of a shut that is done", x.about(5, 0), 20);
    }

    private static void harmed() {
        WhoCalls x = new WhoCalls();
        x.days(20);
        x.days(19);
        due.is("harmed(-1, 0)", x.harmed(-1, 0), -1);
        due.is("harmed(8, 0)", x.harmed(8, 0), -1);
        due.is("harmed(0, -1)", x.harmed(0, -1), -1);
        due.is("harmed(0, 41)", x.harmed(0, 41), -1);
        due.is("none", x.harmed(0, 40), 0);
        x.count(0, 0, 20, 1, 0);
        x.count(0, 0, 20, 1, 1);
        x.count(0, 0, 26, 0, 2);
        x.count(1, 0, 21, 1, 0);
        due.is("the day ahead of the count", x.harmed(0, 19), 0);
        due.is("on that day", x.harmed(0, 20), 1);
        due.is("two", x.harmed(0, 21), 2);
        due.is("7 days behind", x.harmed(0, 27), 2);
        due.is("8 days behind", x.harmed(0, 28), 1);
        due.is("a count of 0", x.harmed(0, 29), 0);
        due.is("another door", x.harmed(1, 21), 0);
        x.call(0, 0, 16);
        x.call(2, 0, 0);
        x.call(3, 1, 1);
        due.is("who uses it is counted once", x.harmed(0, 21), 2);
        due.is("who uses it, on each day", x.harmed(0, 0), 1);
        due.is("who uses it, on each day", x.harmed(0, 40), 1);
        x.count(4, 0, 33, 1, 0);
        x.count(5, 0, 0, 1, 0);
        due.is("day 40 looks back to 33", x.harmed(0, 40), 2);
        due.is("day 7 looks back to 0", x.harmed(0, 7), 2);
        due.is("day 8 does not", x.harmed(0, 8), 1);
        due.is("day 0", x.harmed(0, 0), 2);
    }

    private static void ready() {
        WhoCalls x = new WhoCalls();
        due.is("ready(-1)", x.ready(-1), -1);
        due.is("ready(8)", x.ready(8), -1);
        due.is("ready(0)", x.ready(0), 0);
        x.days(10);
        due.is("from today on", x.ready(0), 10);
        x.count(0, 0, 10, 0, 0);
        due.is("a count of 0", x.ready(0), 10);
        x.count(0, 0, 8, 1, 1);
        due.is("8 days behind the count", x.ready(0), 16);
        x.promise(0, 0, 15);
        due.is("a promise that ends ahead of it", x.ready(0), 16);
        x.promise(0, 0, 16);
        due.is("a promise up to it", x.ready(0), 17);
        x.promise(0, 1, 39);
        due.is("day 40", x.ready(0), 40);
        due.is("another door", x.ready(1), 10);
        x.call(5, 1, 1);
        due.is("none", x.ready(1), -9);
        x.clear(5);
        due.is("cleared", x.ready(1), 10);
        x.days(20);
        x.days(9);
        x.count(2, 2, 32, 1, 0);
        due.is("39 looks back to 32", x.ready(2), 40);
        x.count(2, 2, 33, 1, 1);
        due.is("40 looks back to 33", x.ready(2), -9);
    }
}
