/** Promises 6 to 12, and 32: call, wrap, split, clear, sees, uses, shape, trace. */
public final class TextsTest {
    private static final Due due = new Due("TextsTest");

    public static void main(String[] args) {
        call();
        wrap();
        split();
        full();
        clear();
        sees();
        usesAndShape();
        traceCountsEachAsking();
        traceOfLongChains();
        traceOnlyBySees();
        due.end();
    }

    private static void call() {
        WhoCalls x = new WhoCalls();
        due.is("call(6, 0, 1)", x.call(6, 0, 1), -1);
        due.is("call(-1, 0, 1)", x.call(-1, 0, 1), -1);
        due.is("call(0, 8, 1)", x.call(0, 8, 1), -1);
        due.is("call(0, -1, 1)", x.call(0, -1, 1), -1);
        due.is("call(0, 0, -1)", x.call(0, 0, -1), -1);
        due.is("call(0, 0, 256)", x.call(0, 0, 256), -1);
        due.is("call(0, 0, MAX)", x.call(0, 0, Integer.MAX_VALUE), -1);
        due.is("silent(0)", x.silent(0), 1);
        due.is("call(0, 0, 0)", x.call(0, 0, 0), 0);
        due.is("silent(0)", x.silent(0), 0);
        due.is("call(0, 7, 255)", x.call(0, 7, 255), 1);
        due.is("call(5, 7, 5)", x.call(5, 7, 5), 0);
        due.is("sees(0, 0, 0)", x.sees(0, 0, 0), 0);
        due.is("sees(0, 1, 7)", x.sees(0, 1, 7), 255);
        due.is("sees(0, 1, 6)", x.sees(0, 1, 6), 0);
        due.is("sees(5, 0, 7)", x.sees(5, 0, 7), 5);
    }

    private static void wrap() {
        WhoCalls x = new WhoCalls();
        due.is("wrap in an empty text", x.wrap(2, 0, 0, 1), -1);
        x.call(2, 4, 0);
        due.is("wrap(6, 0, 0, 1)", x.wrap(6, 0, 0, 1), -1);
        due.is("wrap(-1, 0, 0, 1)", x.wrap(-1, 0, 0, 1), -1);
        due.is("wrap of itself", x.wrap(2, 1, 0, 1), -1);
        due.is("wrap(2, -1, 0, 1)", x.wrap(2, -1, 0, 1), -1);
        due.is("wrap(2, 0, -1, 1)", x.wrap(2, 0, -1, 1), -1);
        due.is("wrap(2, 0, 8, 1)", x.wrap(2, 0, 8, 1), -1);
        due.is("wrap(2, 0, 0, -1)", x.wrap(2, 0, 0, -1), -1);
        due.is("wrap(2, 0, 0, 256)", x.wrap(2, 0, 0, 256), -1);
        due.is("wrap of another house's text", x.wrap(3, 0, 0, 1), -1);
        due.is("wrap(2, 0, 0, 129)", x.wrap(2, 0, 0, 129), 1);
        due.is("wrap(2, 0, 1, 129)", x.wrap(2, 0, 1, 129), 2);
        due.is("wrap(2, 2, 7, 129)", x.wrap(2, 2, 7, 129), 3);
        due.is("wrap(2, 0, 3, 255)", x.wrap(2, 0, 3, 255), 4);
        due.is("wrap(2, 0, 3, 0)", x.wrap(2, 0, 3, 0), 5);
        // The call's own set is empty and plays no part.
        due.is("sees(2, 1, 4)", x.sees(2, 1, 4), 129);
        due.is("sees(2, 2, 4)", x.sees(2, 2, 4), 3);
        due.is("sees(2, 3, 4)", x.sees(2, 3, 4), 129);
        due.is("sees(2, 4, 4)", x.sees(2, 4, 4), 255);
        due.is("sees(2, 5, 4)", x.sees(2, 5, 4), 0);
        due.is("sees(2, 1, 3)", x.sees(2, 1, 3), 0);
    }

    private static void split() {
        WhoCalls x = new WhoCalls();
        due.is("split in an empty text", x.split(1, 0, 0, 1, 1), -1);
        x.call(1, 0, 0);
        x.call(1, 1, 0);
        due.is("split(6, 0, 1, 4, 1)", x.split(6, 0, 1, 4, 1), -1);
        due.is("split(-1, 0, 1, 4, 1)", x.split(-1, 0, 1, 4, 1), -1);
        due.is("split(1, 2, 1, 4, 1)", x.split(1, 2, 1, 4, 1), -1);
        due.is("split(1, -1, 1, 4, 1)", x.split(1, -1, 1, 4, 1), -1);
        due.is("split(1, 0, 2, 4, 1)", x.split(1, 0, 2, 4, 1), -1);
        due.is("split(1, 0, -1, 4, 1)", x.split(1, 0, -1, 4, 1), -1);
        due.is("split(1, 0, 1, 0, 1)", x.split(1, 0, 1, 0, 1), -1);
        due.is("split(1, 0, 1, 8, 1)", x.split(1, 0, 1, 8, 1), -1);
        due.is("split(1, 0, 1, 4, -1)", x.split(1, 0, 1, 4, -1), -1);
        due.is("split(1, 0, 1, 4, 256)", x.split(1, 0, 1, 4, 256), -1);
        due.is("split(1, 0, 1, 4, 255)", x.split(1, 0, 1, 4, 255), 2);
        due.is("sees(1, 2, 0)", x.sees(1, 2, 0), 15);
        due.is("sees(1, 2, 1)", x.sees(1, 2, 1), 240);
        due.is("split(1, 1, 0, 1, 255)", x.split(1, 1, 0, 1, 255), 3);
        due.is("sees(1, 3, 1)", x.sees(1, 3, 1), 1);
        due.is("sees(1, 3, 0)", x.sees(1, 3, 0), 254);
        due.is("split(1, 0, 1, 7, 192)", x.split(1, 0, 1, 7, 192), 4);
        due.is("sees(1, 4, 0)", x.sees(1, 4, 0), 64);
        due.is("sees(1, 4, 1)", x.sees(1, 4, 1), 128);
        due.is("split(1, 2, 3, 2, 255)", x.split(1, 2, 3, 2, 255), 5);
        due.is("sees(1, 5, 0)", x.sees(1, 5, 0), 255);
        due.is("sees(1, 5, 1)", x.sees(1, 5, 1), 0);
        // A wrap over a split turns ahead of it: 2 becomes 4, 3 becomes 5, 6 becomes 0.
        due.is("wrap(1, 2, 2, 76)", x.wrap(1, 2, 2, 76), 6);
        due.is("sees(1, 6, 0)", x.sees(1, 6, 0), 1);
        due.is("sees(1, 6, 1)", x.sees(1, 6, 1), 48);
    }

    private static void full() {
        WhoCalls x = new WhoCalls();
        for (int s = 0; s < 12; s++) {
            due.is("call(0, 0, 1)", x.call(0, 0, 1), s);
        }
        due.is("call when full", x.call(0, 0, 1), -3);
        due.is("wrap when full", x.wrap(0, 11, 1, 1), -3);
        due.is("split when full", x.split(0, 11, 0, 1, 1), -3);
        // BAD goes ahead of FULL.
        due.is("bad call when full", x.call(0, 8, 1), -1);
        due.is("bad call's set when full", x.call(0, 0, 256), -1);
        due.is("bad wrap when full", x.wrap(0, 12, 1, 1), -1);
        due.is("bad wrap's d when full", x.wrap(0, 11, 8, 1), -1);
        due.is("bad split when full", x.split(0, 11, 12, 1, 1), -1);
        due.is("bad split's m when full", x.split(0, 11, 11, 0, 1), -1);
        due.is("another house is not full", x.call(1, 0, 1), 0);
        due.is("sees(0, 12, 0)", x.sees(0, 12, 0), -1);
        due.is("clear(0)", x.clear(0), 12);
        due.is("call after clear", x.call(0, 0, 1), 0);
    }

    private static void clear() {
        WhoCalls x = new WhoCalls();
        due.is("clear(6)", x.clear(6), -1);
        due.is("clear(-1)", x.clear(-1), -1);
        x.call(0, 2, 6);
        x.wrap(0, 0, 1, 7);
        x.call(1, 2, 6);
        due.is("clear(0)", x.clear(0), 2);
        due.is("uses(0, 2)", x.uses(0, 2), 0);
        due.is("sees(0, 0, 2)", x.sees(0, 0, 2), -1);
        due.is("silent(0)", x.silent(0), 1);
        due.is("wrap(0, 0, 1, 1)", x.wrap(0, 0, 1, 1), -1);
        due.is("uses(1, 2)", x.uses(1, 2), 6);
        due.is("call(0, 3, 8)", x.call(0, 3, 8), 0);
        due.is("uses(0, 2)", x.uses(0, 2), 0);
        due.is("uses(0, 3)", x.uses(0, 3), 8);
        due.is("clear(0)", x.clear(0), 1);
        due.is("clear(0)", x.clear(0), 0);
    }

    private static void sees() {
        WhoCalls x = new WhoCalls();
        due.is("sees(0, 0, 0) of no statement", x.sees(0, 0, 0), -1);
        x.call(0, 0, 1);
        due.is("sees(6, 0, 0)", x.sees(6, 0, 0), -1);
        due.is("sees(-1, 0, 0)", x.sees(-1, 0, 0), -1);
        due.is("sees(0, 1, 0)", x.sees(0, 1, 0), -1);
        due.is("sees(0, -1, 0)", x.sees(0, -1, 0), -1);
        due.is("sees(0, 0, 8)", x.sees(0, 0, 8), -1);
        due.is("sees(0, 0, -1)", x.sees(0, 0, -1), -1);
        due.is("sees(1, 0, 0)", x.sees(1, 0, 0), -1);
        due.is("trace() after refusals", x.trace(), 0);
        due.is("sees(0, 0, 0)", x.sees(0, 0, 0), 1);
        due.is("trace()", x.trace(), 1);
    }

    private static void usesAndShape() {
        WhoCalls x = new WhoCalls();
        due.is("uses(6, 0)", x.uses(6, 0), -1);
        due.is("uses(-1, 0)", x.uses(-1, 0), -1);
        due.is("uses(0, 8)", x.uses(0, 8), -1);
        due.is("uses(0, -1)", x.uses(0, -1), -1);
        due.is("shape(6, 0)", x.shape(6, 0), -1);
        due.is("shape(-1, 0)", x.shape(-1, 0), -1);
        due.is("shape(0, 8)", x.shape(0, 8), -1);
        due.is("shape(0, -1)", x.shape(0, -1), -1);
        x.call(0, 5, 0);
        due.is("uses(0, 5)", x.uses(0, 5), 0);
        due.is("shape(0, 5)", x.shape(0, 5), 0);
        x.call(0, 5, 128);
        due.is("shape(0, 5)", x.shape(0, 5), 1);
        // Another statement that sees the same argument leaves it one.
        x.wrap(0, 0, 1, 64);
        due.is("uses(0, 5)", x.uses(0, 5), 128);
        due.is("shape(0, 5)", x.shape(0, 5), 1);
        x.wrap(0, 0, 1, 128);
        due.is("uses(0, 5)", x.uses(0, 5), 129);
        due.is("shape(0, 5)", x.shape(0, 5), 2);
        x.call(0, 5, 126 - 8);
        due.is("uses(0, 5)", x.uses(0, 5), 247);
        due.is("shape(0, 5)", x.shape(0, 5), 2);
        x.call(0, 5, 8);
        due.is("uses(0, 5)", x.uses(0, 5), 255);
        due.is("shape(0, 5)", x.shape(0, 5), 3);
        due.is("uses(0, 4)", x.uses(0, 4), 0);
        due.is("uses(1, 5)", x.uses(1, 5), 0);
        due.is("shape(1, 5)", x.shape(1, 5), 0);
    }

    private static void traceCountsEachAsking() {
        WhoCalls x = new WhoCalls();
        x.call(0, 0, 0);
        x.call(0, 1, 3);
        x.wrap(0, 1, 7, 3);
        x.split(0, 2, 2, 1, 3);
        x.split(0, 0, 2, 4, 240);
        x.sees(0, 0, 0);
        due.is("an empty set asks nothing", x.trace(), 0);
        x.sees(0, 1, 0);
        due.is("a call asked for a door that it does not name", x.trace(), 1);
        x.sees(0, 2, 1);
        due.is("a wrap and its call", x.trace(), 12);
        x.sees(0, 3, 1);
        due.is("a split that asks one statement twice", x.trace(), 12 + 100 + 22);
        x.sees(0, 4, 1);
        due.is("a split whose first is asked nothing", x.trace(), 134 + 100 + 11);
        x.sees(0, 4, 1);
        due.is("asked again, counted again", x.trace(), 245 + 111);
        x.clear(0);
        due.is("clear leaves the trace", x.trace(), 356);
    }

    private static void traceOfLongChains() {
        WhoCalls x = new WhoCalls();
        x.call(0, 0, 0);
        x.call(1, 0, 0);
        for (int s = 0; s < 11; s++) {
            x.wrap(0, s, 1, 1);
            x.split(1, s, s, 1, 128);
        }
        due.is("eleven wraps", x.sees(0, 11, 0), 8);
        due.is("trace()", x.trace(), 111);
        due.is("eleven splits", x.sees(1, 11, 0), 128);
        due.is("trace()", x.trace(), 111 + 1101);
        x.clear(1);
        x.call(1, 0, 0);
        for (int s = 0; s < 11; s++) {
            x.split(1, s, s, 1, 129);
        }
        due.is("eleven splits, each asked by two ways but the first", x.sees(1, 11, 0), 129);
        due.is("trace()", x.trace(), 1212 + 2102);
    }

    private static void traceOnlyBySees() {
        WhoCalls x = new WhoCalls();
        x.version();
        x.answer(0, 1, 0, 1);
        x.call(0, 0, 255);
        x.wrap(0, 0, 1, 255);
        x.rule(0, 1, 0, 0);
        x.uses(0, 0);
        x.shape(0, 0);
        x.harm(0, 0, 1);
        x.left(0, 0, 1);
        x.harmed(0, 0);
        x.ready(0);
        x.plan(0);
        x.plan(1);
        due.is("trace()", x.trace(), 0);
    }
}
