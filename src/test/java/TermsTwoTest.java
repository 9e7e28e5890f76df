/** The document's Terms, second part (counts, change): each sentence that names a boundary. */
public final class TermsTwoTest {
    private static final Due due = new Due("TermsTwoTest");

    public static void main(String[] args) {
        countsOnEachDay();
        marksOfEachHouse();
        twiceChangesNothing();
        silent();
        mostForEachDay();
        mostAtItsEnds();
        differsOrIsRefused();
        safe();
        sure();
        mayBe();
        unknown();
        rulesTwelveAtMost();
        ruleModuloEight();
        holdsForEachArgument();
        holdsFromVersionToVersion();
        left();
        leftByRules();
        clash();
        due.end();
    }

    private static WhoCalls onLastDay() {
        WhoCalls x = new WhoCalls();
        x.days(20);
        x.days(19);
        return x;
    }

    private static void countsOnEachDay() {
        due.said("a HOUSE sends how often it called a DOOR on a DAY 0 .. 39");
        WhoCalls x = onLastDay();
        for (int day = 0; day < 40; day++) {
            due.is("count of day " + day, x.count(5, 7, day, 1000 - day, day), 1);
        }
        due.is("day 40", x.count(5, 7, 40, 1, 99), -1);
        due.is("day -1", x.count(5, 7, -1, 1, 99), -1);
        for (int day = 0; day < 40; day++) {
            due.is("sum of day " + day, x.sum(5, 7, day, day), 1000 - day);
        }
        due.is("sum of all", x.sum(5, 7, 0, 39), 40000 - 780);
        due.is("sum of all but the first", x.sum(5, 7, 1, 39), 39000 - 780);
        due.is("sum of all but the last", x.sum(5, 7, 0, 38), 39039 - 780);
        due.is("sum of another door", x.sum(5, 6, 0, 39), 0);
        due.is("sum of another house", x.sum(4, 7, 0, 39), 0);
        due.said("BAD: also a DAY beyond TODAY.");
        WhoCalls y = new WhoCalls();
        due.is("tomorrow", y.count(0, 0, 1, 1, 0), -1);
        due.is("today", y.count(0, 0, 0, 1, 0), 1);
        y.days(1);
        due.is("tomorrow has come", y.count(0, 0, 1, 1, 1), 1);
    }

    private static void marksOfEachHouse() {
        due.said("a number under a MARK 0 .. 99");
        WhoCalls x = new WhoCalls();
        for (int mark = 0; mark < 100; mark++) {
            due.is("mark " + mark, x.count(0, 0, 0, 1000, mark), 1);
        }
        due.is("mark 100", x.count(0, 0, 0, 1000, 100), -1);
        due.is("mark -1", x.count(0, 0, 0, 1000, -1), -1);
        due.is("sum", x.sum(0, 0, 0, 39), 100000);
        for (int mark = 0; mark < 100; mark++) {
            due.is("mark " + mark + " again", x.count(0, 7, 0, 1, mark), 0);
            due.is("from another house", x.count(5, 7, 0, 1, mark), 1);
        }
        due.is("sum", x.sum(0, 7, 0, 39), 0);
        due.is("sum", x.sum(5, 7, 0, 39), 100);
    }

    private static void twiceChangesNothing() {
        due.said("a MARK that came before from that HOUSE is TWICE (nothing changes)");
        WhoCalls x = new WhoCalls();
        x.count(0, 1, 0, 1, 7);
        x.shut(0, 0);
        due.is("another door's mark", x.count(0, 0, 0, 5, 7), 0);
        due.is("the door stays shut", x.about(0, 1), 1);
        due.is("no surprise", x.about(0, 3), 0);
        due.is("nothing is counted", x.sum(0, 0, 0, 39), 0);
        due.is("nobody is harmed", x.harmed(0, 0), 0);
        due.is("refused, the mark is not used up", x.count(0, 0, 1, 5, 8), -1);
        due.is("so it comes now", x.count(0, 0, 0, 5, 8), 1);
        due.is("the door is open", x.about(0, 1), 0);
        due.is("a bad one is not told as twice", x.count(0, 0, 0, 1001, 8), -1);
        due.is("a count of 0 takes its mark", x.count(0, 0, 0, 0, 9), 1);
        due.is("so it is twice", x.count(0, 0, 0, 5, 9), 0);
    }

    private static void silent() {
        due.said("SILENT is a HOUSE with no STATEMENTS and no COUNTS");
        WhoCalls x = new WhoCalls();
        for (int house = 0; house < 6; house++) {
            due.is("at first", x.silent(house), 1);
            due.is("told(3)", x.told(3), 6 - house);
            if (house < 3) {
                x.call(house, 0, 0);
            } else {
                x.count(house, 0, 0, house - 3, 0);
            }
            due.is("with one of both", x.silent(house), 0);
        }
        due.is("told(3)", x.told(3), 0);
        for (int house = 0; house < 6; house++) {
            x.clear(house);
            due.is("cleared", x.silent(house), house < 3 ? 1 : 0);
        }
        due.is("told(3)", x.told(3), 3);
        WhoCalls y = new WhoCalls();
        y.call(6, 0, 1);
        y.call(0, 0, 256);
        y.wrap(0, 0, 0, 1);
        y.count(0, 0, 1, 1, 0);
        due.is("by what is refused it stays silent", y.silent(0), 1);
    }

    private static void mostForEachDay() {
        due.said("what it calls in a span of DAYS is bounded: from 0, up to MOST for each DAY");
        WhoCalls x = new WhoCalls();
        for (int house = 0; house < 6; house++) {
            due.is("a day", x.most(0, 7, 7), (6 - house) * 100);
            due.is("two days", x.most(0, 38, 39), (6 - house) * 200);
            due.is("all days", x.most(7, 0, 39), (6 - house) * 4000);
            due.is("sum is 0", x.sum(house, 0, 0, 39), 0);
            x.call(house, 0, 255);
        }
        due.is("nobody is silent", x.most(0, 0, 39), 0);
        x.count(3, 0, 0, 9, 0);
        x.clear(3);
        x.clear(4);
        due.is("counted, and one silent", x.most(0, 0, 1), 9 + 200);
        due.is("behind the count", x.most(0, 1, 1), 100);
    }

    private static void mostAtItsEnds() {
        due.said("MOST (0 .. 1000; 100 at first)");
        WhoCalls x = new WhoCalls();
        due.is("100 at first", x.set(2, 0, 1000), 100);
        due.is("1000", x.most(0, 0, 39), 6 * 1000 * 40);
        due.is("1001", x.set(2, 0, 1001), -1);
        due.is("-1", x.set(2, 0, -1), -1);
        due.is("as it was", x.most(0, 0, 0), 6000);
        due.is("which is not looked at", x.set(2, -1, 0), 1000);
        due.is("0", x.most(0, 0, 39), 0);
        due.is("which is not looked at", x.set(2, 8, 1), 0);
        due.is("1", x.most(0, 0, 39), 240);
    }

    private static void differsOrIsRefused() {
        due.said("DIFFER of a DOOR, of two VERSIONS: the arguments whose ANSWERS (or REFUSED) are not the same.");
        for (int argument = 0; argument < 8; argument++) {
            WhoCalls x = new WhoCalls();
            int bit = 1 << argument;
            x.version();
            due.is("refused by both", x.differ(0, 0, 1), 0);
            x.answer(0, 1, argument, 0);
            due.is("refused by the first", x.differ(0, 0, 1), bit);
            due.is("refused by the second", x.differ(0, 1, 0), bit);
            x.answer(0, 0, argument, 0);
            due.is("0 by both", x.differ(0, 0, 1), 0);
            x.answer(0, 0, argument, 9);
            due.is("9 and 0", x.differ(0, 0, 1), bit);
            due.is("of one version", x.differ(0, 1, 1), 0);
            due.is("of another door", x.differ(1, 0, 1), 0);
        }
    }

    /** Door 2 answers otherwise in version 1: arguments 0, 1, 7. */
    private static WhoCalls changed() {
        WhoCalls x = new WhoCalls();
        x.answer(2, 0, 0, 5);
        x.answer(2, 0, 1, 5);
        x.version();
        x.answer(2, 1, 0, -9);
        x.answer(2, 1, 1, 6);
        x.answer(2, 1, 7, 0);
        return x;
    }

    private static void safe() {
        due.said("it is SAFE (0), if no argument that it USES differs from v's");
        WhoCalls x = changed();
        x.call(0, 2, 0);
        due.is("it uses none", x.harm(0, 2, 1), 0);
        x.call(0, 2, 124);
        x.call(0, 1, 255);
        due.is("those that it uses are the same", x.harm(0, 2, 1), 0);
        due.is("of another door", x.harm(0, 1, 1), 0);
        x.call(0, 2, 2);
        due.is("one of them differs", x.harm(0, 2, 1), 2);
        due.is("by the version that it goes by", x.harm(0, 2, 0), 0);
        x.goes(0, 1);
        due.is("by the version that it goes by now", x.harm(0, 2, 1), 0);
        due.is("back to the first", x.harm(0, 2, 0), 2);
    }

    private static void sure() {
        due.said("SURE (2), if some STATEMENT sees arguments of that DOOR that all differ");
        for (int set = 1; set < 256; set++) {
            WhoCalls x = changed();
            x.call(3, 2, set);
            int want = (set & 131) == 0 ? 0 : (set & 124) == 0 ? 2 : 1;
            due.is("harm of " + set, x.harm(3, 2, 1), want);
        }
        WhoCalls x = changed();
        x.call(3, 2, 255);
        x.wrap(3, 0, 1, 128 + 1);
        due.is("behind a wrap: 0 and 1", x.harm(3, 2, 1), 2);
        x.clear(3);
        x.call(3, 2, 12);
        x.call(3, 4, 0);
        x.split(3, 0, 1, 2, 255);
        due.is("behind a split, of that door", x.harm(3, 2, 1), 2);
    }

    private static void mayBe() {
        due.said("MAY BE (1) otherwise");
        WhoCalls x = changed();
        x.call(3, 2, 0);
        x.call(3, 1, 0);
        x.call(3, 2, 6);
        due.is("one of two differs; others see none of the door", x.harm(3, 2, 1), 1);
        x.call(3, 2, 192);
        due.is("two such ones", x.harm(3, 2, 1), 1);
        x.call(3, 2, 131);
        due.is("one that sees only those", x.harm(3, 2, 1), 2);
    }

    private static void unknown() {
        due.said("UNKNOWN (3), if it is SILENT");
        WhoCalls x = changed();
        for (int house = 0; house < 6; house++) {
            due.is("silent", x.harm(house, 2, 1), 3);
            due.is("of a door that is the same", x.harm(house, 0, 1), 3);
            due.is("by its own version", x.harm(house, 2, 0), 3);
        }
        x.count(0, 2, 0, 0, 0);
        due.is("with a count", x.harm(0, 2, 1), 0);
        x.call(1, 2, 0);
        due.is("with a statement", x.harm(1, 2, 1), 0);
        due.is("BAD goes ahead of it", x.harm(2, 2, 2), -1);
    }

    private static void rulesTwelveAtMost() {
        due.said("MENDS (12 at most)");
        WhoCalls x = new WhoCalls();
        for (int i = 0; i < 12; i++) {
            due.is("told(2)", x.told(2), i);
            due.is("not yet", x.holds(i, 0, 0), -1);
            due.is("not yet", x.clash(0, i), -1);
            due.is("rule", x.rule(i % 8, 1 << i % 8, (i + 1) % 8, i % 8), i);
            due.is("now", x.holds(i, 0, 0), 1);
        }
        due.is("a thirteenth", x.rule(0, 1, 0, 0), -3);
        due.is("a thirteenth that is bad", x.rule(0, 0, 0, 0), -1);
        due.is("told(2)", x.told(2), 12);
        due.is("the thirteenth", x.holds(12, 0, 0), -1);
        due.is("the first and the ninth", x.clash(0, 8), 0);
    }

    private static void ruleModuloEight() {
        due.said("arguments of a DOOR in a set become, of another one (or the same), those v + d modulo 8");
        for (int to = 0; to < 2; to++) {
            for (int d = 0; d < 8; d++) {
                WhoCalls x = new WhoCalls();
                x.version();
                for (int v = 0; v < 8; v++) {
                    x.answer(0, 0, v, v);
                    x.answer(to, 1, (v + d) % 8, v);
                }
                x.rule(0, 255, to, d);
                due.is("all eight, " + d + " to " + to, x.holds(0, 0, 1), 1);
                x.rule(0, 128, to, (d + 7) % 8);
                due.is("another d", x.holds(1, 0, 1), 0);
                x.rule(0, 1, 1 - to, d);
                due.is("another door", x.holds(2, 0, 1), 0);
            }
        }
    }

    private static void holdsForEachArgument() {
        due.said("It HOLDS from VERSION v to w, if for each argument in the set the ANSWER of the first in v is that");
        for (int broken = 0; broken < 8; broken++) {
            WhoCalls x = new WhoCalls();
            x.version();
            for (int v = 0; v < 8; v++) {
                x.answer(0, 0, v, v);
                x.answer(6, 1, (v + 3) % 8, v == broken ? 9 : v);
            }
            x.rule(0, 255, 6, 3);
            x.rule(0, 255 - (1 << broken), 6, 3);
            x.rule(0, 1 << broken, 6, 3);
            due.is("all, one is not", x.holds(0, 0, 1), 0);
            due.is("all but that one", x.holds(1, 0, 1), 1);
            due.is("that one alone", x.holds(2, 0, 1), 0);
            x.answer(6, 1, (broken + 3) % 8, -9);
            due.is("that one is refused", x.holds(2, 0, 1), 0);
            x.answer(0, 0, broken, -9);
            due.is("both are refused", x.holds(0, 0, 1), 1);
        }
    }

    private static void holdsFromVersionToVersion() {
        due.said("the ANSWER of the first in v is that of the second in w");
        WhoCalls x = new WhoCalls();
        x.answer(0, 0, 0, 1);
        x.version();
        x.answer(0, 1, 0, 2);
        x.answer(1, 1, 0, 1);
        x.rule(0, 1, 1, 0);
        due.is("0 to 1", x.holds(0, 0, 1), 1);
        due.is("1 to 0", x.holds(0, 1, 0), 0);
        due.is("0 to 0", x.holds(0, 0, 0), 0);
        due.is("1 to 1", x.holds(0, 1, 1), 0);
        due.is("0 to 2, which is not there", x.holds(0, 0, 2), -1);
    }

    private static void left() {
        due.said("LEFT of a HOUSE and DOOR by w: the arguments that it USES, that differ");
        WhoCalls x = changed();
        due.is("it uses none", x.left(0, 2, 1), 0);
        x.call(0, 2, 254);
        due.is("1 and 7", x.left(0, 2, 1), 130);
        due.is("of another door", x.left(0, 1, 1), 0);
        due.is("by its own version", x.left(0, 2, 0), 0);
        x.goes(0, 1);
        due.is("by its own version now", x.left(0, 2, 1), 0);
        due.is("back to the first", x.left(0, 2, 0), 130);
    }

    private static void leftByRules() {
        due.said("and are in the set of no RULE of that DOOR that HOLDS from its VERSION to w");
        WhoCalls x = changed();
        x.call(0, 2, 255);
        due.is("without a rule", x.left(0, 2, 1), 131);
        x.rule(2, 128, 3, 0);
        due.is("7, refused by both", x.left(0, 2, 1), 3);
        x.rule(2, 3, 4, 7);
        due.is("a rule that does not hold", x.left(0, 2, 1), 3);
        x.rule(1, 3, 1, 0);
        due.is("a rule of another door, that holds", x.left(0, 2, 1), 3);
        for (int i = 3; i < 11; i++) {
            x.rule(2, 2, 4, 0);
        }
        x.answer(4, 1, 7, 5);
        due.is("0 behind 7, 1 not yet: it does not hold", x.left(0, 2, 1), 3);
        x.answer(4, 1, 0, 5);
        due.is("it holds", x.left(0, 2, 1), 0);
        x.answer(4, 1, 7, 6);
        due.is("it holds no more", x.left(0, 2, 1), 3);
        x.answer(5, 1, 1, 5);
        due.is("the twelfth rule", x.rule(2, 1, 5, 1), 11);
        due.is("holds, for 0", x.left(0, 2, 1), 2);
        x.goes(0, 1);
        due.is("from the other version it holds too, refused by both; no other does", x.left(0, 2, 0), 130);
    }

    private static void clash() {
        due.said("Two RULES CLASH, if both are of one DOOR, have an argument in common, and lead it to another");
        for (int argument = 0; argument < 8; argument++) {
            WhoCalls x = new WhoCalls();
            int bit = 1 << argument;
            x.rule(0, bit, 1, 7);
            x.rule(0, 255, 1, 0);
            x.rule(0, 255, 2, 7);
            x.rule(0, 255, 1, 7);
            x.rule(0, 255 - bit, 1, 0);
            x.rule(3, 255, 1, 0);
            due.is("another argument", x.clash(0, 1), 1);
            due.is("another argument, the other way", x.clash(1, 0), 1);
            due.is("another door", x.clash(0, 2), 1);
            due.is("the same", x.clash(0, 3), 0);
            due.is("no argument in common", x.clash(0, 4), 0);
            due.is("of another door", x.clash(0, 5), 0);
            due.is("with itself", x.clash(0, 0), 0);
        }
    }
}
