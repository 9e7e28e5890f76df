/** Promises 1 to 5: a new object, version, answer, differ, goes. */
public final class VersionsTest {
    private static final Due due = new Due("VersionsTest");

    public static void main(String[] args) {
        newObject();
        version();
        answer();
        answerRefused();
        differ();
        goes();
        due.end();
    }

    private static void newObject() {
        WhoCalls x = new WhoCalls();
        due.is("told(0)", x.told(0), 1);
        due.is("told(1)", x.told(1), 0);
        due.is("told(2)", x.told(2), 0);
        due.is("told(3)", x.told(3), 6);
        due.is("told(4)", x.told(4), 0);
        due.is("trace()", x.trace(), 0);
        due.is("plan(0)", x.plan(0), 0);
        due.is("plan(1)", x.plan(1), 0);
        for (int house = 0; house < 6; house++) {
            due.is("clear", x.clear(house), 0);
            due.is("goes", x.goes(house, 0), 0);
            due.is("silent", x.silent(house), 1);
            due.is("set(1, house, 0)", x.set(1, house, 0), 0);
        }
        for (int face = 0; face < 8; face++) {
            newDoor(x, face);
        }
    }

    private static void newDoor(WhoCalls x, int face) {
        due.is("about 0", x.about(face, 0), -9);
        due.is("about 1", x.about(face, 1), 0);
        due.is("about 2", x.about(face, 2), -9);
        due.is("about 3", x.about(face, 3), 0);
        due.is("set(0, face, 0)", x.set(0, face, 0), 0);
        for (int argument = 0; argument < 8; argument++) {
            due.is("answer", x.answer(face, 0, argument, -9), -9);
        }
        for (int house = 0; house < 6; house++) {
            due.is("uses", x.uses(house, face), 0);
            due.is("sum", x.sum(house, face, 0, 39), 0);
            due.is("promise", x.promise(face, house, -9), -9);
        }
    }

    private static void version() {
        WhoCalls x = new WhoCalls();
        for (int face = 0; face < 8; face++) {
            for (int argument = 0; argument < 8; argument++) {
                x.answer(face, 0, argument, (face + argument) % 10);
            }
        }
        due.is("version()", x.version(), 1);
        // A version begins as the one before it, not as version 0.
        x.answer(7, 1, 7, -9);
        due.is("version()", x.version(), 2);
        due.is("answer(7, 2, 7, 3)", x.answer(7, 2, 7, 3), -9);
        due.is("answer(7, 1, 7, -9)", x.answer(7, 1, 7, -9), -9);
        due.is("answer(7, 0, 7, 4)", x.answer(7, 0, 7, 4), 4);
        due.is("version()", x.version(), 3);
        due.is("version()", x.version(), 4);
        for (int face = 0; face < 8; face++) {
            for (int argument = 0; argument < 8; argument++) {
                int want = face == 7 && argument == 7 ? 3 : (face + argument) % 10;
                due.is("answer(face, 4, argument, 0)", x.answer(face, 4, argument, 0), want);
            }
        }
        due.is("version() when full", x.version(), -3);
        due.is("told(0)", x.told(0), 5);
        due.is("answer(0, 4, 0, 0) after full", x.answer(0, 4, 0, 0), 0);
    }

    private static void answer() {
        WhoCalls x = new WhoCalls();
        due.is("answer(0, 0, 0, 0)", x.answer(0, 0, 0, 0), -9);
        due.is("answer(0, 0, 0, 9)", x.answer(0, 0, 0, 9), 0);
        due.is("answer(0, 0, 0, -9)", x.answer(0, 0, 0, -9), 9);
        due.is("answer(7, 0, 7, 5)", x.answer(7, 0, 7, 5), -9);
        due.is("answer(7, 0, 6, 5)", x.answer(7, 0, 6, 5), -9);
        due.is("answer(6, 0, 7, 5)", x.answer(6, 0, 7, 5), -9);
        x.version();
        due.is("answer(7, 1, 7, 6)", x.answer(7, 1, 7, 6), 5);
        due.is("answer(7, 0, 7, 7)", x.answer(7, 0, 7, 7), 5);
        due.is("answer(7, 1, 7, 8)", x.answer(7, 1, 7, 8), 6);
    }

    private static void answerRefused() {
        WhoCalls x = new WhoCalls();
        int[] faces = {-1, 8, Integer.MIN_VALUE, Integer.MAX_VALUE};
        for (int wrong : faces) {
            due.is("answer(face)", x.answer(wrong, 0, 0, 1), -2);
            due.is("answer(argument)", x.answer(0, 0, wrong, 1), -2);
        }
        int[] versions = {-1, 1, 5, Integer.MIN_VALUE, Integer.MAX_VALUE};
        for (int wrong : versions) {
            due.is("answer(version)", x.answer(0, wrong, 0, 1), -2);
        }
        int[] answers = {-1, 10, -8, -10, -2, Integer.MIN_VALUE, Integer.MAX_VALUE};
        for (int wrong : answers) {
            due.is("answer(v)", x.answer(0, 0, 0, wrong), -2);
        }
        due.is("answer(0, 0, 0, 1)", x.answer(0, 0, 0, 1), -9);
    }

    private static void differ() {
        WhoCalls x = new WhoCalls();
        x.answer(3, 0, 0, 4);
        x.answer(3, 0, 7, 4);
        x.version();
        due.is("differ(3, 0, 1)", x.differ(3, 0, 1), 0);
        x.answer(3, 1, 0, -9);
        x.answer(3, 1, 7, 5);
        x.answer(3, 1, 3, 0);
        due.is("differ(3, 0, 1)", x.differ(3, 0, 1), 137);
        due.is("differ(3, 1, 0)", x.differ(3, 1, 0), 137);
        due.is("differ(3, 1, 1)", x.differ(3, 1, 1), 0);
        due.is("differ(2, 0, 1)", x.differ(2, 0, 1), 0);
        due.is("differ(-1, 0, 1)", x.differ(-1, 0, 1), -1);
        due.is("differ(8, 0, 1)", x.differ(8, 0, 1), -1);
        due.is("differ(3, -1, 1)", x.differ(3, -1, 1), -1);
        due.is("differ(3, 2, 1)", x.differ(3, 2, 1), -1);
        due.is("differ(3, 0, -1)", x.differ(3, 0, -1), -1);
        due.is("differ(3, 0, 2)", x.differ(3, 0, 2), -1);
    }

    private static void goes() {
        WhoCalls x = new WhoCalls();
        due.is("goes(5, 1)", x.goes(5, 1), -1);
        x.version();
        due.is("goes(5, 1)", x.goes(5, 1), 0);
        due.is("goes(5, 0)", x.goes(5, 0), 1);
        due.is("goes(4, 1)", x.goes(4, 1), 0);
        due.is("goes(5, 2)", x.goes(5, 2), -1);
        due.is("goes(5, -1)", x.goes(5, -1), -1);
        due.is("goes(6, 0)", x.goes(6, 0), -1);
        due.is("goes(-1, 0)", x.goes(-1, 0), -1);
        due.is("goes(5, 0)", x.goes(5, 0), 0);
        due.is("goes(4, 0)", x.goes(4, 0), 1);
    }
}
