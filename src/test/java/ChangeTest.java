/** Promises 17 to 21: harm, rule, holds, clash, left. */
public final class ChangeTest {
    private static final Due due = new Due("ChangeTest");

    public static void main(String[] args) {
        harm();
        harmOfSilentHouses();
        rule();
        holds();
        clash();
        left();
        due.end();
    }

    /** Doors 0 and 1 answer each argument by itself in version 0; in version 1 door 0 refuses 0 to 3. */
    private static WhoCalls changed() {
        WhoCalls x = new WhoCalls();
        for (int argument = 0; argument < 8; argument++) {
            x.answer(0, 0, argument, argument);
            x.answer(1, 0, argument, argument);
        }
        x.version();
        for (int argument = 0; argument < 4; argument++) {
            x.answer(0, 1, argument, -9);
        }
        return x;
    }

    private static void harm() {
        WhoCalls x = changed();
        x.call(0, 0, 0);
        due.is("nothing is used", x.harm(0, 0, 1), 0);
        x.call(0, 0, 240);
        due.is("used, but the same", x.harm(0, 0, 1), 0);
        x.call(0, 0, 24);
        // The statement that sees nothing is not one whose arguments all differ.
        due.is("one of two differs", x.harm(0, 0, 1), 1);
        due.is("another door", x.harm(0, 1, 1), 0);
        due.is("its own version", x.harm(0, 0, 0), 0);
        x.split(0, 0, 1, 7, 8);
        due.is("a statement whose arguments all differ", x.harm(0, 0, 1), 2);
        x.goes(0, 1);
        due.is("by its own version", x.harm(0, 0, 1), 0);
        due.is("back again", x.harm(0, 0, 0), 2);
        due.is("harm(-1, 0, 0)", x.harm(-1, 0, 0), -1);
        due.is("harm(6, 0, 0)", x.harm(6, 0, 0), -1);
        due.is("harm(0, -1, 0)", x.harm(0, -1, 0), -1);
        due.is("harm(0, 8, 0)", x.harm(0, 8, 0), -1);
        due.is("harm(0, 0, -1)", x.harm(0, 0, -1), -1);
        due.is("harm(0, 0, 2)", x.harm(0, 0, 2), -1);
        // A wrap leads 7 to 0, which differs; its own other door's arguments play no part.
        x.call(1, 1, 255);
        x.call(1, 0, 0);
        x.wrap(1, 1, 1, 128);
        x.split(1, 0, 1, 2, 255);
        due.is("a wrap that leads to one that differs", x.harm(1, 0, 1), 2);
        x.clear(1);
        x.call(1, 1, 255);
        x.call(1, 0, 0);
        x.split(1, 0, 1, 2, 3 + 16);
        due.is("a split that sees one that does not differ", x.harm(1, 0, 1), 0);
        x.split(1, 0, 1, 2, 3 + 8);
        due.is("a split that sees one of the door, that differs", x.harm(1, 0, 1), 2);
    }

    private static void harmOfSilentHouses() {
        WhoCalls x = changed();
        due.is("silent", x.harm(2, 0, 1), 3);
        due.is("silent, its own version", x.harm(2, 0, 0), 3);
        x.count(2, 0, 0, 5, 0);
        due.is("with counts alone it uses nothing", x.harm(2, 0, 1), 0);
        x.call(3, 0, 1);
        due.is("with a statement", x.harm(3, 0, 1), 2);
        x.clear(3);
        due.is("cleared", x.harm(3, 0, 1), 3);
    }

    private static void rule() {
        WhoCalls x = new WhoCalls();
        due.is("rule(-1, ..)", x.rule(-1, 1, 0, 0), -1);
        due.is("rule(8, ..)", x.rule(8, 1, 0, 0), -1);
        due.is("rule of an empty set", x.rule(0, 0, 0, 0), -1);
        due.is("rule(0, -1, ..)", x.rule(0, -1, 0, 0), -1);
        due.is("rule(0, 256, ..)", x.rule(0, 256, 0, 0), -1);
        due.is("rule(0, 1, -1, 0)", x.rule(0, 1, -1, 0), -1);
        due.is("rule(0, 1, 8, 0)", x.rule(0, 1, 8, 0), -1);
        due.is("rule(0, 1, 0, -1)", x.rule(0, 1, 0, -1), -1);
        due.is("rule(0, 1, 0, 8)", x.rule(0, 1, 0, 8), -1);
        due.is("told(2)", x.told(2), 0);
        for (int i = 0; i < 12; i++) {
            due.is("rule(7, 255, 7, 7)", x.rule(7, 255, 7, 7), i);
        }
        due.is("rule when full", x.rule(0, 1, 0, 0), -3);
        due.is("holds(11, 0, 0)", x.holds(11, 0, 0), 1);
        due.is("holds(12, 0, 0) when full", x.holds(12, 0, 0), -1);
        due.is("clash(11, 12) when full", x.clash(11, 12), -1);
        due.is("bad rule when full", x.rule(0, 0, 0, 0), -1);
        due.is("told(2)", x.told(2), 12);
    }

    private static void holds() {
        WhoCalls x = new WhoCalls();
        due.is("holds of no rule", x.holds(0, 0, 0), -1);
        x.answer(0, 0, 6, 1);
        x.answer(0, 0, 7, 2);
        x.version();
        x.answer(3, 1, 1, 1);
        x.answer(3, 1, 2, 2);
        x.rule(0, 192, 3, 3);
        x.rule(0, 224, 3, 3);
        x.rule(0, 193, 3, 3);
        x.rule(3, 1, 3, 0);
        due.is("holds(0, 0, 1): 6 to 1, 7 to 2", x.holds(0, 0, 1), 1);
        due.is("holds(0, 1, 0)", x.holds(0, 1, 0), 0);
        due.is("holds(0, 0, 0)", x.holds(0, 0, 0), 0);
        due.is("holds(0, 1, 1)", x.holds(0, 1, 1), 1);
        due.is("holds(1, 0, 1): 5 and 0 are both refused", x.holds(1, 0, 1), 1);
        due.is("holds(2, 0, 1): 0 and 3 are both refused", x.holds(2, 0, 1), 1);
        x.answer(0, 0, 0, 0);
        due.is("holds(2, 0, 1): 3 is refused", x.holds(2, 0, 1), 0);
        x.answer(3, 1, 0, 5);
        due.is("holds(1, 0, 1): 5 is refused", x.holds(1, 0, 1), 0);
        due.is("holds(0, 0, 1)", x.holds(0, 0, 1), 1);
        due.is("holds(3, 0, 0)", x.holds(3, 0, 0), 1);
        due.is("holds(3, 0, 1)", x.holds(3, 0, 1), 0);
        due.is("holds(-1, 0, 1)", x.holds(-1, 0, 1), -1);
        due.is("holds(4, 0, 1)", x.holds(4, 0, 1), -1);
        due.is("holds(0, -1, 1)", x.holds(0, -1, 1), -1);
        due.is("holds(0, 2, 1)", x.holds(0, 2, 1), -1);
        due.is("holds(0, 0, -1)", x.holds(0, 0, -1), -1);
        due.is("holds(0, 0, 2)", x.holds(0, 0, 2), -1);
    }

    private static void clash() {
        WhoCalls x = new WhoCalls();
        x.rule(0, 3, 1, 2);
        x.rule(0, 2, 1, 3);
        x.rule(0, 2, 2, 2);
        x.rule(0, 4, 2, 5);
        x.rule(1, 3, 2, 5);
        x.rule(0, 255, 1, 2);
        due.is("another argument", x.clash(0, 1), 1);
        due.is("the other way round", x.clash(1, 0), 1);
        due.is("another door", x.clash(0, 2), 1);
        due.is("both others", x.clash(1, 2), 1);
        due.is("no argument in common", x.clash(0, 3), 0);
        due.is("of two doors", x.clash(0, 4), 0);
        due.is("to the same", x.clash(0, 5), 0);
        due.is("with itself", x.clash(3, 3), 0);
        due.is("clash(3, 5)", x.clash(3, 5), 1);
        due.is("clash(-1, 0)", x.clash(-1, 0), -1);
        due.is("clash(6, 0)", x.clash(6, 0), -1);
        due.is("clash(0, -1)", x.clash(0, -1), -1);
        due.is("clash(0, 6)", x.clash(0, 6), -1);
    }

    private static void left() {
        WhoCalls x = changed();
        due.is("a silent house", x.left(0, 0, 1), 0);
        x.call(0, 0, 60);
        due.is("used and different", x.left(0, 0, 1), 12);
        due.is("its own version", x.left(0, 0, 0), 0);
        due.is("another door", x.left(0, 1, 1), 0);
        x.rule(1, 4, 1, 0);
        due.is("a rule of another door", x.left(0, 0, 1), 12);
        x.rule(0, 4, 1, 1);
        due.is("a rule that does not hold", x.left(0, 0, 1), 12);
        x.rule(0, 5, 1, 0);
        due.is("a rule that holds", x.left(0, 0, 1), 8);
        x.rule(0, 8, 1, 0);
        due.is("two rules that hold", x.left(0, 0, 1), 0);
        x.goes(0, 1);
        due.is("by its version the rules hold no more", x.left(0, 0, 0), 12);
        x.goes(0, 0);
        x.answer(1, 1, 3, 9);
        due.is("one holds no more", x.left(0, 0, 1), 8);
        WhoCalls y = changed();
        y.call(0, 0, 60);
        y.rule(0, 4, 1, 0);
        due.is("the first rule of all", y.left(0, 0, 1), 8);
        due.is("left(-1, 0, 0)", x.left(-1, 0, 0), -1);
        due.is("left(6, 0, 0)", x.left(6, 0, 0), -1);
        due.is("left(0, -1, 0)", x.left(0, -1, 0), -1);
        due.is("left(0, 8, 0)", x.left(0, 8, 0), -1);
        due.is("left(0, 0, -1)", x.left(0, 0, -1), -1);
        due.is("left(0, 0, 2)", x.left(0, 0, 2), -1);
    }
}
