/** The document's Terms, first part (doors, houses, texts): each sentence that names a boundary. */
public final class TermsOneTest {
    private static final Due due = new Due("TermsOneTest");

    public static void main(String[] args) {
        answersStandEachByItself();
        allRefusedAtFirst();
        versionBeginsAsTheOneBefore();
        versionsEnd();
        housesGoByZeroAtFirst();
        textsEmptyAtFirst();
        textsOfTwelve();
        shapes();
        wrapNamesALesserNumber();
        wrapTurnsModuloEight();
        ownSetOfTheNamedPlaysNoPart();
        splitAtEachNumber();
        splitNamesTwo();
        twoThatComeToOne();
        seenForEachDoor();
        tracedNumbers();
        tracedOnTheWay();
        tracedBehindAWrap();
        tracedWithSetsNotEmpty();
        tracedBySeesAlone();
        usesOfAllStatements();
        usesAfterClear();
        due.end();
    }

    private static WhoCalls withVersions(int versions) {
        WhoCalls x = new WhoCalls();
        for (int version = 1; version < versions; version++) {
            x.version();
        }
        return x;
    }

    private static void answersStandEachByItself() {
        due.said("DOORS 0 .. 7 have, in each VERSION 0 .. 4, an ANSWER for each ARGUMENT 0 .. 7: 0 .. 9, or none");
        for (int version = 0; version < 5; version++) {
            WhoCalls x = withVersions(5);
            for (int cell = 0; cell < 64; cell++) {
                due.is("answer, first", x.answer(cell / 8, version, cell % 8, cell % 10), -9);
            }
            for (int face = 0; face < 8; face++) {
                for (int other = 0; other < 5; other++) {
                    due.is("differ", x.differ(face, other, version), other == version ? 0 : 255);
                }
            }
            for (int cell = 0; cell < 64; cell++) {
                due.is("answer, again", x.answer(cell / 8, version, cell % 8, -9), cell % 10);
                due.is("answer, none", x.answer(cell / 8, version, cell % 8, 0), -9);
            }
        }
    }

    private static void allRefusedAtFirst() {
        due.said("all are REFUSED in all VERSIONS at first");
        WhoCalls x = withVersions(5);
        for (int cell = 0; cell < 320; cell++) {
            due.is("answer " + cell, x.answer(cell / 40, cell % 5, cell / 5 % 8, -9), -9);
        }
    }

    private static void versionBeginsAsTheOneBefore() {
        due.said("A new VERSION begins as the one before it.");
        WhoCalls x = new WhoCalls();
        x.answer(0, 0, 0, 1);
        x.answer(7, 0, 7, 1);
        for (int version = 1; version < 5; version++) {
            due.is("version()", x.version(), version);
            due.is("differ(0, before, new)", x.differ(0, version - 1, version), 0);
            due.is("answer(0, new, 0, ..)", x.answer(0, version, 0, version + 1), version);
            due.is("answer(7, new, 7, ..)", x.answer(7, version, 7, version + 1), version);
            due.is("differ(7, before, new)", x.differ(7, version - 1, version), 128);
        }
        // What comes to a version later stays with that one.
        x.answer(0, 1, 0, 9);
        due.is("answer(0, 0, 0, 1)", x.answer(0, 0, 0, 1), 1);
        due.is("answer(0, 2, 0, 3)", x.answer(0, 2, 0, 3), 3);
    }

    private static void versionsEnd() {
        due.said("VERSION 0 .. 4; version: FULL.");
        for (int versions = 1; versions <= 5; versions++) {
            WhoCalls x = withVersions(versions);
            due.is("the last", x.differ(0, 0, versions - 1), 0);
            due.is("one behind it", x.differ(0, 0, versions), -1);
            due.is("a new one", x.version(), versions < 5 ? versions : -3);
            due.is("told(0)", x.told(0), Math.min(versions + 1, 5));
        }
    }

    private static void housesGoByZeroAtFirst() {
        due.said("HOUSES 0 .. 5 have a VERSION that they go by (0 at first)");
        WhoCalls x = withVersions(5);
        for (int house = 0; house < 6; house++) {
            due.is("goes(house, 4)", x.goes(house, 4), 0);
        }
        for (int house = 0; house < 6; house++) {
            due.is("goes(house, 0)", x.goes(house, 0), 4);
        }
        due.is("goes(6, 0)", x.goes(6, 0), -1);
    }

    private static void textsEmptyAtFirst() {
        due.said("TEXTS: one each, of STATEMENTS (12 at most), which is empty at first");
        WhoCalls x = new WhoCalls();
        for (int house = 0; house < 6; house++) {
            due.is("sees(house, 0, 0)", x.sees(house, 0, 0), -1);
            due.is("clear(house)", x.clear(house), 0);
            due.is("call(house, 0, 1)", x.call(house, 0, 1 << house), 0);
        }
        for (int house = 0; house < 6; house++) {
            due.is("uses(house, 0)", x.uses(house, 0), 1 << house);
            due.is("clear(house)", x.clear(house), 1);
        }
    }

    private static void textsOfTwelve() {
        due.said("STATEMENTS (12 at most)");
        for (int kind = 0; kind < 3; kind++) {
            WhoCalls x = new WhoCalls();
            for (int s = 0; s < 11; s++) {
                due.is("statement", x.call(0, 0, 1), s);
            }
            due.is("the twelfth", added(x, kind), 11);
            due.is("sees it", x.sees(0, 11, 0), 2);
            for (int next = 0; next < 3; next++) {
                due.is("a thirteenth", added(x, next), -3);
            }
            due.is("sees the thirteenth", x.sees(0, 12, 0), -1);
            due.is("another text", x.call(1, 0, 1), 0);
            due.is("clear(0)", x.clear(0), 12);
            due.is("statement", x.call(0, 0, 1), 0);
        }
    }

    private static int added(WhoCalls x, int kind) {
        switch (kind) {
            case 0: return x.call(0, 0, 2);
            case 1: return x.wrap(0, 10, 0, 2);
            default: return x.split(0, 10, 9, 7, 2);
        }
    }

    private static void shapes() {
        due.said("those that may come (SHAPE): CONST one, FEW some, OPEN all eight");
        for (int set = 0; set < 256; set++) {
            WhoCalls x = new WhoCalls();
            x.call(5, 7, set);
            int many = Integer.bitCount(set);
            due.is("uses of " + set, x.uses(5, 7), set);
            due.is("shape of " + set, x.shape(5, 7), many == 8 ? 3 : Math.min(many, 2));
        }
    }

    private static void wrapNamesALesserNumber() {
        due.said("A WRAP names another STATEMENT of the same TEXT, with a lesser number; A SPLIT names two such ones");
        WhoCalls x = new WhoCalls();
        x.call(1, 0, 1);
        due.is("in an empty text", x.wrap(0, 0, 0, 1), -1);
        due.is("split in an empty text", x.split(0, 0, 0, 1, 1), -1);
        for (int s = 0; s < 11; s++) {
            x.call(0, 0, 1);
            due.is("its own number", x.wrap(0, s + 1, 0, 1), -1);
            due.is("its own number, first", x.split(0, s + 1, s, 1, 1), -1);
            due.is("its own number, second", x.split(0, s, s + 1, 1, 1), -1);
        }
        due.is("another text's", x.wrap(1, 1, 0, 1), -1);
        due.is("-1", x.wrap(0, -1, 0, 1), -1);
        due.is("the one before", x.wrap(0, 10, 0, 1), 11);
        x.clear(0);
        due.is("a cleared one", x.wrap(0, 0, 0, 1), -1);
        due.is("a cleared one, split", x.split(0, 0, 0, 1, 1), -1);
    }

    private static void wrapTurnsModuloEight() {
        due.said("an argument v of it is an argument (v + d) modulo 8 of that one");
        for (int d = 0; d < 8; d++) {
            WhoCalls x = new WhoCalls();
            x.call(0, 3, 0);
            for (int v = 0; v < 8; v++) {
                x.wrap(0, 0, d, 1 << v);
                due.is(v + " + " + d, x.sees(0, v + 1, 3), 1 << (v + d) % 8);
            }
            x.wrap(0, 8, 8 - Math.max(d, 1), 255);
            due.is("all eight stay all eight", x.sees(0, 9, 3), 255);
        }
        WhoCalls x = new WhoCalls();
        x.call(0, 3, 0);
        due.is("d 8", x.wrap(0, 0, 8, 1), -1);
        due.is("d -1", x.wrap(0, 0, -1, 1), -1);
    }

    private static void ownSetOfTheNamedPlaysNoPart() {
        due.said("what it SEES is what that one would see of its arguments (that one's own set plays no part)");
        WhoCalls x = new WhoCalls();
        x.call(0, 0, 0);
        x.wrap(0, 0, 1, 0);
        x.split(0, 0, 1, 4, 0);
        x.wrap(0, 0, 1, 24);
        x.wrap(0, 1, 1, 24);
        x.wrap(0, 2, 1, 24);
        x.split(0, 1, 2, 4, 24);
        due.is("over a call", x.sees(0, 3, 0), 48);
        due.is("over a wrap", x.sees(0, 4, 0), 96);
        due.is("over a split", x.sees(0, 5, 0), 96);
        due.is("a split over both", x.sees(0, 6, 0), 48);
        due.is("the one named, asked with its own", x.sees(0, 1, 0), 0);
        x.clear(0);
        x.call(0, 0, 255);
        x.wrap(0, 0, 0, 1);
        due.is("a greater set of the one named", x.sees(0, 1, 0), 1);
    }

    private static void splitAtEachNumber() {
        due.said("with a number m (1 .. 7): arguments below m go to the first, others to the second, as they are");
        for (int m = 1; m < 8; m++) {
            WhoCalls x = new WhoCalls();
            x.call(0, 0, 0);
            x.call(0, 7, 0);
            for (int v = 0; v < 8; v++) {
                x.split(0, 0, 1, m, 1 << v);
                due.is("first, " + v + " at " + m, x.sees(0, v + 2, 0), v < m ? 1 << v : 0);
                due.is("second, " + v + " at " + m, x.sees(0, v + 2, 7), v < m ? 0 : 1 << v);
            }
        }
        WhoCalls x = new WhoCalls();
        x.call(0, 0, 0);
        due.is("m 0", x.split(0, 0, 0, 0, 1), -1);
        due.is("m 8", x.split(0, 0, 0, 8, 1), -1);
    }

    private static void splitNamesTwo() {
        due.said("A SPLIT names two such ones");
        WhoCalls x = new WhoCalls();
        x.call(2, 1, 0);
        due.is("one and the same", x.split(2, 0, 0, 3, 255), 1);
        due.is("sees all", x.sees(2, 1, 1), 255);
        due.is("a later one first", x.split(2, 1, 0, 3, 5), 2);
        due.is("sees", x.sees(2, 2, 1), 5);
    }

    private static void twoThatComeToOne() {
        due.said("What a STATEMENT sees is, for each DOOR, a set of arguments.");
        for (int d = 0; d < 8; d++) {
            for (int m = 1; m < 8; m++) {
                WhoCalls x = new WhoCalls();
                x.call(0, 0, 0);
                x.wrap(0, 0, d, 0);
                x.split(0, 1, 0, m, 255);
                int want = 0;
                for (int v = 0; v < 8; v++) {
                    want |= 1 << (v < m ? (v + d) % 8 : v);
                }
                String way = "below " + m + " behind a wrap of " + d;
                due.is(way, x.sees(0, 2, 0), want);
                due.is("uses, " + way, x.uses(0, 0), want);
                due.is("shape, " + way, x.shape(0, 0), want == 255 ? 3 : 2);
            }
        }
        WhoCalls x = new WhoCalls();
        x.call(0, 0, 0);
        x.wrap(0, 0, 1, 0);
        x.split(0, 1, 0, 1, 3);
        due.is("0 + 1 and 1", x.sees(0, 2, 0), 2);
        due.is("two that come to one are CONST", x.shape(0, 0), 1);
        due.is("each is asked: the split, the wrap, the call twice", x.trace(), 112);
    }

    private static void seenForEachDoor() {
        due.said("What a STATEMENT sees is, for each DOOR, a set of arguments.");
        WhoCalls x = new WhoCalls();
        for (int face = 0; face < 4; face++) {
            x.call(0, face, 0);
        }
        x.split(0, 0, 1, 2, 0);
        x.split(0, 2, 3, 6, 0);
        x.split(0, 4, 5, 4, 255);
        due.is("door 0", x.sees(0, 6, 0), 3);
        due.is("door 1", x.sees(0, 6, 1), 12);
        due.is("door 2", x.sees(0, 6, 2), 48);
        due.is("door 3", x.sees(0, 6, 3), 192);
        for (int face = 4; face < 8; face++) {
            due.is("none of " + face, x.sees(0, 6, face), 0);
        }
        x.wrap(0, 6, 7, 17);
        due.is("turned behind 7: door 0", x.sees(0, 7, 0), 0);
        due.is("turned behind 7: door 1", x.sees(0, 7, 1), 8);
        due.is("turned behind 7: door 3", x.sees(0, 7, 3), 128);
    }

    private static void tracedNumbers() {
        due.said("CALL (1), WRAP (10), SPLIT (100)");
        WhoCalls x = new WhoCalls();
        due.is("at first", x.trace(), 0);
        x.call(0, 0, 1);
        x.wrap(0, 0, 0, 1);
        x.split(0, 0, 0, 1, 1);
        x.sees(0, 0, 0);
        due.is("a call", x.trace(), 1);
        x.sees(0, 1, 0);
        due.is("a wrap over it", x.trace(), 1 + 11);
        x.sees(0, 2, 0);
        due.is("a split over it, one side", x.trace(), 12 + 101);
        x.sees(0, 2, 7);
        due.is("of a door that it does not see", x.trace(), 113 + 101);
    }

    private static void tracedOnTheWay() {
        due.said("as often as sees() asks that body, once for each STATEMENT asked on the way");
        WhoCalls x = new WhoCalls();
        x.call(0, 0, 0);
        for (int s = 0; s < 7; s++) {
            x.split(0, s, s, s + 1, 255);
        }
        // Each split takes one argument off, so the ways at a depth are one more than ahead of it.
        long want = 0;
        for (int s = 0; s < 8; s++) {
            due.is("sees " + s, x.sees(0, s, 0), s == 0 ? 0 : 255);
            want += s == 0 ? 0 : 100 * (s * (s + 1) / 2) + s + 1;
            due.is("trace() behind " + s, x.trace(), want);
        }
        WhoCalls y = new WhoCalls();
        y.call(0, 0, 0);
        for (int s = 0; s < 11; s++) {
            y.wrap(0, s, 7, 128);
        }
        due.is("eleven wraps", y.sees(0, 11, 0), 1 << (7 + 77) % 8);
        due.is("trace()", y.trace(), 111);
    }

    private static void tracedBehindAWrap() {
        due.said("once for each STATEMENT asked on the way, with a set (of the arguments that come to it)");
        int[] sets = {1, 2, 4, 8, 16, 32, 64, 128, 129, 36, 255, 0};
        for (int d = 0; d < 8; d++) {
            for (int set : sets) {
                WhoCalls x = new WhoCalls();
                x.call(0, 0, 0);
                x.wrap(0, 0, 0, 0);
                x.split(0, 0, 1, 3, 0);
                x.wrap(0, 2, d, set);
                x.sees(0, 3, 0);
                boolean first = false;
                boolean second = false;
                for (int v = 0; v < 8; v++) {
                    first |= (set >> v & 1) != 0 && (v + d) % 8 < 3;
                    second |= (set >> v & 1) != 0 && (v + d) % 8 >= 3;
                }
                int want = set == 0 ? 0 : 110 + (first ? 1 : 0) + (second ? 11 : 0);
                due.is("trace() of " + set + " behind a wrap of " + d, x.trace(), want);
            }
        }
    }

    private static void tracedWithSetsNotEmpty() {
        due.said("with a set that is not empty");
        WhoCalls x = new WhoCalls();
        x.call(0, 0, 0);
        x.wrap(0, 0, 3, 0);
        x.split(0, 0, 1, 4, 0);
        for (int s = 0; s < 3; s++) {
            due.is("its own set is empty", x.sees(0, s, 0), 0);
            due.is("trace()", x.trace(), 0);
        }
        x.split(0, 0, 1, 4, 15);
        x.sees(0, 3, 0);
        due.is("the second side is empty", x.trace(), 101);
        x.split(0, 0, 1, 4, 240);
        x.sees(0, 4, 0);
        due.is("the first side is empty", x.trace(), 101 + 111);
    }

    private static void tracedBySeesAlone() {
        due.said("coming to THE TRACE as often as sees() asks that body");
        WhoCalls x = withVersions(2);
        x.call(0, 0, 255);
        x.wrap(0, 0, 1, 255);
        x.uses(0, 0);
        x.shape(0, 0);
        x.harm(0, 0, 1);
        x.left(0, 0, 1);
        x.harmed(0, 0);
        x.ready(0);
        x.plan(0);
        due.is("by others", x.trace(), 0);
        x.sees(0, 2, 0);
        x.sees(6, 0, 0);
        x.sees(0, 0, 8);
        due.is("by what is refused", x.trace(), 0);
        x.sees(0, 1, 0);
        x.clear(0);
        due.is("cleared", x.trace(), 11);
    }

    private static void usesOfAllStatements() {
        due.said("USES of a HOUSE of a DOOR: all arguments that its STATEMENTS see, each asked with its own set.");
        WhoCalls x = new WhoCalls();
        due.is("no statements", x.uses(0, 0), 0);
        x.call(0, 0, 1);
        for (int s = 1; s < 11; s++) {
            x.call(0, 1, 0);
        }
        due.is("the first", x.uses(0, 0), 1);
        due.is("sets that are empty", x.uses(0, 1), 0);
        due.is("the twelfth", x.wrap(0, 1, 7, 9), 11);
        due.is("the twelfth's own set", x.uses(0, 1), 128 + 4);
        due.is("the first's too", x.uses(0, 0), 1);
        due.is("another house", x.uses(1, 0), 0);
    }

    private static void usesAfterClear() {
        due.said("A HOUSE's TEXT is empty: how many STATEMENTS it had.");
        WhoCalls x = withVersions(2);
        x.answer(0, 1, 0, 1);
        for (int s = 0; s < 12; s++) {
            x.call(0, 0, 1);
        }
        due.is("harm(0, 0, 1)", x.harm(0, 0, 1), 2);
        due.is("clear(0)", x.clear(0), 12);
        x.call(0, 0, 3);
        // The statements that were cleared stand behind the new one no more.
        due.is("uses(0, 0)", x.uses(0, 0), 3);
        due.is("harm(0, 0, 1)", x.harm(0, 0, 1), 1);
        due.is("sees(0, 1, 0)", x.sees(0, 1, 0), -1);
        due.is("clear(0)", x.clear(0), 1);
        due.is("harm(0, 0, 1)", x.harm(0, 0, 1), 3);
        due.is("uses(0, 0)", x.uses(0, 0), 0);
        due.is("clear(0)", x.clear(0), 0);
    }
}
