/** The document's Terms, third part (days, promises, plans): each sentence that names a boundary. */
public final class TermsThreeTest {
    private static final Due due = new Due("TermsThreeTest");

    public static void main(String[] args) {
        todayIsADay();
        promiseUpToADay();
        promiseOfNone();
        shutFromTodayOn();
        laterShutTakesItsPlace();
        shutRefusedByPromise();
        promiseMovesShut();
        shutIsDone();
        promiseOfAShutDoor();
        countTakesBack();
        countAheadOfAPlannedShut();
        openTakesBack();
        latestPromise();
        harmByUse();
        harmByCounts();
        harmOfDayForty();
        readyFromTodayOn();
        readyBehindPromises();
        readyNone();
        planOfLeastCost();
        planOfLeastNumber();
        planAtItsEnds();
        planKeepsPromises();
        firstOfTheRefusals();
        due.end();
    }

    private static WhoCalls on(int day) {
        WhoCalls x = new WhoCalls();
        for (int left = day; left > 0; left -= 20) {
            x.days(Math.min(left, 20));
        }
        return x;
    }

    private static void todayIsADay() {
        due.said("TODAY is a DAY, 0 at first; days: 1 .. 20; STATE: above 39");
        for (int n = 1; n <= 20; n++) {
            WhoCalls x = new WhoCalls();
            due.is("told(1)", x.told(1), 0);
            due.is("days(n)", x.days(n), n);
            due.is("told(1)", x.told(1), n);
        }
        for (int today = 20; today < 40; today++) {
            WhoCalls x = on(today);
            due.is("one too many", x.days(40 - today), -2);
            due.is("told(1)", x.told(1), today);
            due.is("up to 39", today == 39 ? 39 : x.days(39 - today), 39);
            due.is("day 40", x.days(1), -2);
            due.is("BAD goes ahead", x.days(21), -1);
            due.is("BAD goes ahead", x.days(0), -1);
        }
    }

    private static void promiseUpToADay() {
        due.said("A PROMISE of a DOOR to a HOUSE: it stays up to a DAY, that one too (none at first).");
        WhoCalls x = on(5);
        for (int face = 0; face < 8; face++) {
            for (int house = 0; house < 6; house++) {
                int until = 5 + (face + house) % 9;
                due.is("none at first", x.promise(face, house, until), -9);
            }
        }
        for (int face = 0; face < 8; face++) {
            for (int house = 0; house < 6; house++) {
                int until = 5 + (face + house) % 9;
                due.is("what it was", x.promise(face, house, house == 3 ? 20 : -9), until);
            }
            due.is("up to its day", x.shut(face, 19), -2);
            due.is("that one too", x.shut(face, 20), -2);
            due.is("the one behind", x.shut(face, 21), 21);
        }
        due.is("day 0", x.promise(0, 0, 0), -9);
        due.is("day 39", x.promise(0, 0, 39), 0);
        due.is("day 40", x.promise(0, 0, 40), -2);
        due.is("day -1", x.promise(0, 0, -1), -2);
        due.is("what it was", x.promise(0, 0, 38), 39);
    }

    private static void promiseOfNone() {
        due.said("A PROMISE up to a DAY (NONE: none any more): what it was (NONE).");
        WhoCalls x = new WhoCalls();
        due.is("none of none", x.promise(0, 0, -9), -9);
        x.shut(0, 4);
        due.is("none moves no shut", x.promise(0, 0, -9), -9);
        due.is("about(0, 0)", x.about(0, 0), 4);
        x.promise(0, 0, 6);
        due.is("about(0, 0)", x.about(0, 0), 7);
        due.is("shut(0, 6)", x.shut(0, 6), -2);
        due.is("none any more", x.promise(0, 0, -9), 6);
        due.is("the shut stays", x.about(0, 0), 7);
        due.is("about(0, 2)", x.about(0, 2), -9);
        due.is("shut(0, 0)", x.shut(0, 0), 0);
        due.is("STATE, of none too", x.promise(0, 0, -9), -3);
    }

    private static void shutFromTodayOn() {
        due.said("SHUT of a DOOR on a DAY from TODAY on (40 at most): planned");
        for (int today = 0; today < 40; today += 13) {
            WhoCalls x = on(today);
            due.is("yesterday", x.shut(0, today - 1), -1);
            due.is("about(0, 0)", x.about(0, 0), -9);
            due.is("tomorrow", x.shut(1, today + 1), today + 1);
            due.is("is planned", x.about(1, 1), 0);
            due.is("about(1, 0)", x.about(1, 0), today + 1);
            due.is("today", x.shut(0, today), today);
            due.is("is done", x.about(0, 1), 1);
            due.is("day 40", x.shut(2, 40), 40);
            due.is("day 41", x.shut(2, 41), -1);
            due.is("about(2, 0)", x.about(2, 0), 40);
            due.is("told(4)", x.told(4), 1);
        }
    }

    private static void laterShutTakesItsPlace() {
        due.said("a later one takes its place");
        WhoCalls x = on(3);
        x.shut(0, 20);
        due.is("behind it", x.shut(0, 30), 30);
        due.is("about(0, 0)", x.about(0, 0), 30);
        due.is("ahead of it", x.shut(0, 5), 5);
        due.is("about(0, 0)", x.about(0, 0), 5);
        x.days(2);
        due.is("the one of now is done", x.about(0, 1), 1);
        due.is("STATE: SHUT already", x.shut(0, 30), -2);
        due.is("the same day again", x.shut(0, 5), -2);
        due.is("about(0, 0)", x.about(0, 0), 5);
        due.is("open(0)", x.open(0), 5);
        due.is("the others are gone", x.open(0), -2);
    }

    private static void shutRefusedByPromise() {
        due.said("It is REFUSED, if some HOUSE has a PROMISE of it up to that DAY or beyond");
        for (int house = 0; house < 6; house++) {
            WhoCalls x = new WhoCalls();
            x.promise(7, house, 10);
            due.is("beyond", x.shut(7, 9), -2);
            due.is("up to that day", x.shut(7, 10), -2);
            due.is("nothing is planned", x.about(7, 0), -9);
            due.is("of another door", x.shut(6, 10), 10);
            due.is("a day behind", x.shut(7, 11), 11);
            due.is("beyond, one is planned", x.shut(7, 0), -2);
            due.is("which stays", x.about(7, 0), 11);
        }
        WhoCalls x = new WhoCalls();
        x.promise(7, 0, 39);
        due.is("up to the last day", x.shut(7, 39), -2);
        due.is("day 40", x.shut(7, 40), 40);
        x.promise(6, 0, 0);
        due.is("up to today", x.shut(6, 0), -2);
        due.is("tomorrow", x.shut(6, 1), 1);
    }

    private static void promiseMovesShut() {
        due.said("a PROMISE that is made later moves it to the DAY behind");
        for (int until = 0; until < 40; until++) {
            WhoCalls x = new WhoCalls();
            x.shut(3, 20);
            due.is("promise", x.promise(3, 5, until), -9);
            due.is("shut 20 behind " + until, x.about(3, 0), until < 20 ? 20 : until + 1);
            due.is("another door's", x.about(4, 0), -9);
        }
        WhoCalls x = new WhoCalls();
        x.shut(3, 5);
        x.promise(3, 0, 9);
        x.promise(3, 1, 12);
        due.is("two", x.about(3, 0), 13);
        x.promise(3, 2, 12);
        x.promise(3, 1, 1);
        due.is("a lesser one moves it no way", x.about(3, 0), 13);
        x.days(12);
        due.is("on the promise's last day it is open", x.about(3, 1), 0);
        x.days(1);
        due.is("on the day behind it is shut", x.about(3, 1), 1);
    }

    private static void shutIsDone() {
        due.said("A SHUT whose DAY has come is done: the DOOR is SHUT then");
        WhoCalls x = new WhoCalls();
        for (int face = 0; face < 8; face++) {
            x.shut(face, face + 1);
        }
        for (int today = 0; today < 10; today++) {
            due.is("told(4) on day " + today, x.told(4), Math.min(today, 8));
            for (int face = 0; face < 8; face++) {
                due.is("door " + face + " on day " + today, x.about(face, 1), face < today ? 1 : 0);
                due.is("its day", x.about(face, 0), face + 1);
            }
            x.days(1);
        }
        WhoCalls y = new WhoCalls();
        y.shut(0, 3);
        y.shut(1, 40);
        y.days(20);
        due.is("days that were gone over", y.about(0, 1), 1);
        y.days(19);
        due.is("still", y.about(0, 1), 1);
        due.is("day 40 does not come", y.about(1, 1), 0);
    }

    private static void promiseOfAShutDoor() {
        due.said("-3: STATE: the DOOR is SHUT; BAD is told as -2");
        WhoCalls x = new WhoCalls();
        x.promise(0, 0, 2);
        x.shut(0, 3);
        x.days(2);
        due.is("the day ahead", x.promise(0, 1, 2), -9);
        x.days(1);
        due.is("its day", x.promise(0, 1, 3), -3);
        due.is("a day that has gone", x.promise(0, 1, 0), -3);
        due.is("the last day", x.promise(0, 1, 39), -3);
        due.is("BAD goes ahead", x.promise(0, 1, 40), -2);
        due.is("BAD goes ahead", x.promise(0, 6, 3), -2);
        due.is("another door", x.promise(1, 1, 3), -9);
        due.is("nothing changed", x.about(0, 2), 2);
        due.is("nothing changed", x.about(0, 0), 3);
        x.open(0);
        due.is("open again", x.promise(0, 1, 3), 2);
    }

    private static void countTakesBack() {
        due.said("a COUNT above 0 of it, of that DAY or one behind it, takes it back, and is a SURPRISE");
        for (int day = 0; day < 8; day++) {
            for (int n = 0; n < 3; n++) {
                WhoCalls x = new WhoCalls();
                x.shut(7, 4);
                x.days(7);
                boolean back = n > 0 && day >= 4 && day <= 7;
                due.is("count", x.count(5, 7, day, n, 0), 1);
                due.is("shut 4, count of day " + day, x.about(7, 1), back ? 0 : 1);
                due.is("its day", x.about(7, 0), back ? -9 : 4);
                due.is("surprises", x.about(7, 3), back ? 1 : 0);
                due.is("told(4)", x.told(4), back ? 0 : 1);
                due.is("open(7)", x.open(7), back ? -2 : 4);
            }
        }
        WhoCalls x = new WhoCalls();
        for (int i = 1; i <= 5; i++) {
            x.shut(0, 0);
            x.count(0, 0, 0, 1000, i);
            due.is("surprises", x.about(0, 3), i);
            x.count(1, 0, 0, 1000, i);
            due.is("open again: no surprise", x.about(0, 3), i);
        }
        due.is("of another door", x.about(1, 3), 0);
        x.shut(0, 0);
        due.is("what came before it was shut leaves it", x.about(0, 1), 1);
        x.shut(1, 0);
        x.count(2, 1, 0, 1, 0);
        due.is("another door's", x.about(0, 1), 1);
    }

    private static void countAheadOfAPlannedShut() {
        due.said("of that DAY or one behind it (a planned SHUT's DAY is beyond TODAY)");
        WhoCalls x = on(10);
        x.shut(0, 11);
        x.count(0, 0, 10, 9, 0);
        due.is("today, the day ahead", x.about(0, 0), 11);
        due.is("surprises", x.about(0, 3), 0);
        due.is("tomorrow", x.count(0, 0, 11, 9, 1), -1);
        due.is("about(0, 0)", x.about(0, 0), 11);
        x.days(1);
        x.count(0, 0, 11, 9, 0);
        due.is("twice", x.about(0, 1), 1);
        x.count(0, 0, 11, 9, 1);
        due.is("its day", x.about(0, 1), 0);
        due.is("shut again", x.shut(0, 11), 11);
        due.is("about(0, 3)", x.about(0, 3), 1);
    }

    private static void openTakesBack() {
        due.said("A SHUT that is planned, or done, is taken back: its DAY. BAD; STATE: there is none.");
        WhoCalls x = new WhoCalls();
        for (int face = 0; face < 8; face++) {
            due.is("there is none", x.open(face), -2);
            due.is("shut", x.shut(face, face * 5), face * 5);
        }
        x.days(10);
        for (int face = 0; face < 8; face++) {
            due.is("its day", x.open(face), face * 5);
            due.is("open", x.about(face, 1), 0);
            due.is("none is planned", x.about(face, 0), -9);
            due.is("no surprise", x.about(face, 3), 0);
            due.is("there is none", x.open(face), -2);
        }
        due.is("told(4)", x.told(4), 0);
        x.shut(0, 40);
        due.is("of day 40", x.open(0), 40);
    }

    private static void latestPromise() {
        due.said("2 the latest DAY that was promised to some HOUSE (NONE)");
        for (int house = 0; house < 6; house++) {
            WhoCalls x = new WhoCalls();
            due.is("none", x.about(0, 2), -9);
            x.promise(0, house, 0);
            due.is("day 0", x.about(0, 2), 0);
            x.promise(0, (house + 1) % 6, 39);
            x.promise(0, (house + 2) % 6, 38);
            due.is("day 39", x.about(0, 2), 39);
            x.promise(0, (house + 1) % 6, -9);
            due.is("day 38", x.about(0, 2), 38);
            x.promise(0, (house + 2) % 6, -9);
            due.is("day 0", x.about(0, 2), 0);
            due.is("another door", x.about(1, 2), -9);
        }
    }

    private static void harmByUse() {
        due.said("HARM of a DOOR on a DAY: how many HOUSES USE it (some argument)");
        WhoCalls x = new WhoCalls();
        for (int house = 0; house < 6; house++) {
            x.call(house, 3, 0);
            due.is("no argument", x.harmed(3, 0), house);
            x.call(house, 3, 1 << house);
            due.is("some argument", x.harmed(3, 0), house + 1);
            due.is("some argument, day 40", x.harmed(3, 40), house + 1);
        }
        x.count(0, 3, 0, 5, 0);
        due.is("a house that uses and sent is one", x.harmed(3, 0), 6);
        due.is("another door", x.harmed(4, 0), 0);
        x.wrap(0, 0, 0, 0);
        due.is("day 41", x.harmed(3, 41), -1);
        due.is("day -1", x.harmed(3, -1), -1);
    }

    private static void harmByCounts() {
        due.said("or sent a COUNT above 0 of it within the 7 DAYS ahead of that DAY, or on it");
        for (int sent = 0; sent < 40; sent++) {
            WhoCalls x = on(39);
            x.count(sent % 6, 3, sent, 1, 0);
            x.count((sent + 1) % 6, 3, sent, 0, 0);
            x.count((sent + 2) % 6, 4, sent, 9, 0);
            for (int day = 0; day <= 40; day++) {
                boolean within = day >= sent && day - 7 <= sent;
                due.is("sent " + sent + ", on " + day, x.harmed(3, day), within ? 1 : 0);
            }
        }
        WhoCalls x = on(20);
        x.count(0, 0, 10, 0, 0);
        x.count(0, 0, 12, 3, 1);
        x.count(1, 0, 11, 3, 0);
        due.is("10", x.harmed(0, 10), 0);
        due.is("11", x.harmed(0, 11), 1);
        due.is("12", x.harmed(0, 12), 2);
        due.is("18", x.harmed(0, 18), 2);
        due.is("19", x.harmed(0, 19), 1);
        due.is("20", x.harmed(0, 20), 0);
    }

    private static void harmOfDayForty() {
        due.said("HARM on a DAY 0 .. 40; within the 7 DAYS ahead of that DAY");
        WhoCalls x = on(39);
        x.count(0, 0, 32, 1, 0);
        due.is("32 for 39", x.harmed(0, 39), 1);
        due.is("32 for 40", x.harmed(0, 40), 0);
        x.count(1, 0, 33, 1, 0);
        due.is("33 for 40", x.harmed(0, 40), 1);
        x.count(2, 0, 39, 1, 0);
        due.is("39 for 40", x.harmed(0, 40), 2);
        due.is("39 for 39", x.harmed(0, 39), 3);
        due.is("39 for 38", x.harmed(0, 38), 2);
        x.count(3, 0, 0, 1, 0);
        due.is("0 for 0", x.harmed(0, 0), 1);
        due.is("0 for 7", x.harmed(0, 7), 1);
        due.is("0 for 8", x.harmed(0, 8), 0);
    }

    private static void readyFromTodayOn() {
        due.said("READY: the first DAY from TODAY on (up to 40; NONE) with HARM 0");
        for (int today = 0; today < 40; today++) {
            WhoCalls x = on(today);
            due.is("ready", x.ready(0), today);
            x.count(0, 0, today, 0, 0);
            due.is("a count of 0", x.ready(0), today);
            x.count(0, 0, today, 1, 1);
            due.is("a count of today " + today, x.ready(0), today + 8 > 40 ? -9 : today + 8);
            due.is("another door", x.ready(1), today);
        }
        WhoCalls x = on(20);
        x.count(0, 0, 12, 1, 0);
        due.is("8 days ago", x.ready(0), 20);
        x.count(0, 0, 13, 1, 1);
        due.is("7 days ago", x.ready(0), 21);
    }

    private static void readyBehindPromises() {
        due.said("and no PROMISE of it up to that DAY or beyond; SILENT HOUSES are told beside.");
        for (int until = 0; until < 40; until++) {
            WhoCalls x = on(10);
            x.promise(0, until % 6, until);
            due.is("promised up to " + until, x.ready(0), Math.max(until + 1, 10));
        }
        WhoCalls x = new WhoCalls();
        due.is("all are silent", x.told(3), 6);
        due.is("which does not hinder", x.ready(0), 0);
        x.shut(0, 0);
        due.is("a door that is shut", x.ready(0), 0);
    }

    private static void readyNone() {
        due.said("(up to 40; NONE)");
        for (int house = 0; house < 6; house++) {
            WhoCalls x = new WhoCalls();
            x.call(house, 7, 0);
            due.is("a set that is empty", x.ready(7), 0);
            x.call(house, 7, 128);
            due.is("none", x.ready(7), -9);
            due.is("of another door", x.ready(6), 0);
            x.clear(house);
            due.is("cleared", x.ready(7), 0);
        }
        WhoCalls x = on(32);
        x.promise(0, 0, 39);
        x.count(0, 0, 32, 1, 0);
        due.is("day 40", x.ready(0), 40);
        x.days(1);
        x.count(0, 0, 33, 1, 1);
        due.is("none", x.ready(0), -9);
    }

    private static void planOfLeastCost() {
        due.said("for each HOUSE and DOOR that it USES and that is not kept the HOUSE's HOURS: the least COST in all");
        WhoCalls x = new WhoCalls();
        for (int face = 0; face < 8; face++) {
            x.set(0, face, 10 * (face + 1));
        }
        x.set(1, 0, 35);
        x.set(1, 1, 20);
        for (int face = 0; face < 8; face++) {
            x.call(0, face, 1 << face);
            x.call(1, face, face < 7 ? 1 : 0);
        }
        // Doors 0 to 4 cost 10 to 50 and spare 55; 5, 6 cost 60, 70; 7 costs 80 and spares 35.
        due.is("plan(0)", x.plan(0), 31);
        due.is("plan(1)", x.plan(1), 150 + 55 + 55 + 35);
        x.call(0, 6, 255);
        due.is("a house that uses it twice counts once", x.plan(1), 295);
        x.set(0, 0, 0);
        due.is("a cost of 0", x.plan(1), 285);
        x.clear(0);
        due.is("20 each", x.plan(0), 1);
        due.is("plan(1)", x.plan(1), 20 * 6);
    }

    private static void planOfLeastNumber() {
        due.said("of several the least number");
        WhoCalls x = new WhoCalls();
        due.is("costs of 0 at first", x.plan(0), 0);
        due.is("plan(1)", x.plan(1), 0);
        for (int face = 0; face < 8; face++) {
            x.call(0, face, 1);
        }
        due.is("hours of 0 at first", x.plan(0), 0);
        x.set(1, 0, 7);
        due.is("each is kept for nothing", x.plan(0), 255);
        for (int face = 0; face < 8; face++) {
            x.set(0, face, 7);
            due.is("costs as much either way", x.plan(0), 255 - (2 << face) + 1);
            due.is("plan(1)", x.plan(1), 7 * (face + 1));
        }
        x.set(0, 4, 6);
        due.is("one less", x.plan(0), 16);
        due.is("plan(1)", x.plan(1), 55);
        x.set(0, 4, 8);
        due.is("one more", x.plan(0), 0);
        due.is("plan(1)", x.plan(1), 56);
    }

    private static void planAtItsEnds() {
        due.said("COSTS (0 .. 1000 for each DOOR to keep), HOURS, 0 .. 1000");
        WhoCalls x = new WhoCalls();
        for (int house = 0; house < 6; house++) {
            due.is("hours", x.set(1, house, 1000), 0);
            due.is("1001", x.set(1, house, 1001), -1);
            due.is("-1", x.set(1, house, -1), -1);
            for (int face = 0; face < 8; face++) {
                x.call(house, face, 255);
            }
        }
        for (int face = 0; face < 8; face++) {
            due.is("cost", x.set(0, face, 1000), 0);
            due.is("1001", x.set(0, face, 1001), -1);
            due.is("-1", x.set(0, face, -1), -1);
        }
        due.is("all are kept", x.plan(0), 255);
        due.is("for 8000", x.plan(1), 8000);
        for (int house = 1; house < 6; house++) {
            x.set(1, house, 0);
        }
        due.is("none is kept", x.plan(0), 0);
        due.is("for 8000", x.plan(1), 8000);
    }

    private static void planKeepsPromises() {
        due.said("a DOOR with a PROMISE beyond TODAY is kept");
        for (int face = 0; face < 8; face++) {
            WhoCalls x = on(10);
            x.set(0, face, 1000);
            x.promise(face, face % 6, 9);
            due.is("up to yesterday", x.plan(0), 0);
            x.promise(face, face % 6, 10);
            due.is("up to today", x.plan(0), 0);
            due.is("plan(1)", x.plan(1), 0);
            x.promise(face, face % 6, 11);
            due.is("up to tomorrow", x.plan(0), 1 << face);
            due.is("plan(1)", x.plan(1), 1000);
            x.days(1);
            due.is("tomorrow has come", x.plan(0), 0);
            x.promise(face, face % 6, 39);
            due.is("up to the last day", x.plan(0), 1 << face);
            x.promise(face, face % 6, -9);
            due.is("none any more", x.plan(0), 0);
        }
    }

    private static void firstOfTheRefusals() {
        due.said("Refused, and nothing changes, the first of these: BAD, STATE, FULL.");
        WhoCalls x = on(20);
        for (int i = 0; i < 12; i++) {
            x.call(0, 0, 0);
            x.rule(0, 1, 0, 0);
        }
        x.shut(0, 20);
        due.is("call: FULL", x.call(0, 7, 255), -3);
        due.is("call: BAD", x.call(0, 7, 256), -1);
        due.is("wrap: FULL", x.wrap(0, 11, 7, 255), -3);
        due.is("wrap: BAD", x.wrap(0, 12, 7, 255), -1);
        due.is("split: FULL", x.split(0, 11, 11, 7, 255), -3);
        due.is("split: BAD", x.split(0, 11, 11, 8, 255), -1);
        due.is("rule: FULL", x.rule(7, 255, 7, 7), -3);
        due.is("rule: BAD", x.rule(7, 0, 7, 7), -1);
        due.is("days: STATE", x.days(20), -2);
        due.is("days: BAD", x.days(21), -1);
        due.is("shut: STATE", x.shut(0, 40), -2);
        due.is("shut: BAD", x.shut(0, 41), -1);
        due.is("promise: STATE", x.promise(0, 5, 39), -3);
        due.is("promise: BAD", x.promise(0, 5, 40), -2);
        due.is("open: STATE", x.open(7), -2);
        due.is("open: BAD", x.open(8), -1);
    }
}
