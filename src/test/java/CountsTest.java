/** Promises 13 to 16: count, sum, silent, most. */
public final class CountsTest {
    private static final Due due = new Due("CountsTest");

    public static void main(String[] args) {
        countRefused();
        countTwice();
        sum();
        silent();
        most();
        due.end();
    }

    private static void countRefused() {
        WhoCalls x = new WhoCalls();
        x.days(5);
        due.is("count(-1, ..)", x.count(-1, 0, 0, 1, 0), -1);
        due.is("count(6, ..)", x.count(6, 0, 0, 1, 0), -1);
        due.is("count(0, -1, ..)", x.count(0, -1, 0, 1, 0), -1);
        due.is("count(0, 8, ..)", x.count(0, 8, 0, 1, 0), -1);
        due.is("count day -1", x.count(0, 0, -1, 1, 0), -1);
        due.is("count day beyond today", x.count(0, 0, 6, 1, 0), -1);
        due.is("count day 40", x.count(0, 0, 40, 1, 0), -1);
        due.is("count n -1", x.count(0, 0, 0, -1, 0), -1);
        due.is("count n 1001", x.count(0, 0, 0, 1001, 0), -1);
        due.is("count mark -1", x.count(0, 0, 0, 1, -1), -1);
        due.is("count mark 100", x.count(0, 0, 0, 1, 100), -1);
        due.is("silent(0)", x.silent(0), 1);
        due.is("sum(0, 0, 0, 39)", x.sum(0, 0, 0, 39), 0);
        due.is("count of today", x.count(0, 0, 5, 1000, 99), 1);
        due.is("count of day 0", x.count(0, 7, 0, 1, 0), 1);
        due.is("a bad count with a mark that came before", x.count(0, 0, 6, 1, 99), -1);
    }

    private static void countTwice() {
        WhoCalls x = new WhoCalls();
        x.days(3);
        due.is("count(1, 2, 3, 4, 50)", x.count(1, 2, 3, 4, 50), 1);
        due.is("the same again", x.count(1, 2, 3, 4, 50), 0);
        due.is("the mark for another door", x.count(1, 3, 3, 4, 50), 0);
        due.is("the mark for another day", x.count(1, 2, 0, 4, 50), 0);
        due.is("another mark", x.count(1, 2, 3, 4, 51), 1);
        due.is("the mark from another house", x.count(2, 2, 3, 9, 50), 1);
        due.is("sum(1, 2, 0, 39)", x.sum(1, 2, 0, 39), 8);
        due.is("sum(1, 3, 0, 39)", x.sum(1, 3, 0, 39), 0);
        due.is("sum(2, 2, 0, 39)", x.sum(2, 2, 0, 39), 9);
        due.is("a count of 0 takes its mark", x.count(1, 2, 3, 0, 52), 1);
        due.is("and it comes twice", x.count(1, 2, 3, 7, 52), 0);
        due.is("sum(1, 2, 0, 39)", x.sum(1, 2, 0, 39), 8);
        x.clear(1);
        due.is("clear leaves the marks", x.count(1, 2, 3, 4, 50), 0);
    }

    private static void sum() {
        WhoCalls x = new WhoCalls();
        x.days(20);
        x.days(19);
        x.count(5, 7, 0, 1, 0);
        x.count(5, 7, 39, 1000, 1);
        x.count(5, 7, 20, 30, 2);
        x.count(5, 6, 20, 7, 3);
        due.is("sum(5, 7, 0, 39)", x.sum(5, 7, 0, 39), 1031);
        due.is("sum(5, 7, 0, 0)", x.sum(5, 7, 0, 0), 1);
        due.is("sum(5, 7, 39, 39)", x.sum(5, 7, 39, 39), 1000);
        due.is("sum(5, 7, 1, 38)", x.sum(5, 7, 1, 38), 30);
        due.is("sum(5, 7, 20, 20)", x.sum(5, 7, 20, 20), 30);
        due.is("sum(5, 7, 21, 38)", x.sum(5, 7, 21, 38), 0);
        due.is("sum(5, 6, 0, 39)", x.sum(5, 6, 0, 39), 7);
        due.is("sum(4, 7, 0, 39)", x.sum(4, 7, 0, 39), 0);
        due.is("sum(-1, ..)", x.sum(-1, 0, 0, 0), -1);
        due.is("sum(6, ..)", x.sum(6, 0, 0, 0), -1);
        due.is("sum(0, -1, ..)", x.sum(0, -1, 0, 0), -1);
        due.is("sum(0, 8, ..)", x.sum(0, 8, 0, 0), -1);
        due.is("sum from -1", x.sum(0, 0, -1, 0), -1);
        due.is("sum to 40", x.sum(0, 0, 0, 40), -1);
        due.is("sum from behind to", x.sum(0, 0, 5, 4), -1);
        due.is("sum from 40 to 40", x.sum(0, 0, 40, 40), -1);
        due.is("sum of extremes", x.sum(0, 0, Integer.MIN_VALUE, Integer.MAX_VALUE), -1);
    }

    private static void silent() {
        WhoCalls x = new WhoCalls();
        due.is("silent(-1)", x.silent(-1), -1);
        due.is("silent(6)", x.silent(6), -1);
        due.is("told(3)", x.told(3), 6);
        x.call(0, 0, 0);
        due.is("a statement that sees nothing", x.silent(0), 0);
        x.count(1, 0, 0, 0, 0);
        due.is("a count of 0", x.silent(1), 0);
        x.count(2, 0, 0, 1, 0);
        due.is("a count of 1", x.silent(2), 0);
        x.goes(3, 0);
        x.promise(0, 3, 9);
        x.set(1, 3, 5);
        due.is("neither", x.silent(3), 1);
        due.is("told(3)", x.told(3), 3);
        x.clear(0);
        due.is("cleared", x.silent(0), 1);
        x.call(2, 0, 1);
        x.clear(2);
        due.is("cleared, but with counts", x.silent(2), 0);
        due.is("told(3)", x.told(3), 4);
    }

    private static void most() {
        WhoCalls x = new WhoCalls();
        due.is("most of a new object", x.most(0, 0, 39), 6 * 100 * 40);
        x.days(10);
        x.call(0, 3, 255);
        due.is("a statement bounds nothing", x.most(3, 4, 6), 5 * 100 * 3);
        x.count(1, 3, 4, 7, 0);
        x.count(1, 3, 3, 1000, 1);
        x.count(0, 3, 6, 20, 0);
        x.count(2, 2, 6, 500, 0);
        due.is("most(3, 4, 6)", x.most(3, 4, 6), 3 * 100 * 3 + 27);
        due.is("most(3, 5, 5)", x.most(3, 5, 5), 3 * 100);
        due.is("most(2, 6, 6)", x.most(2, 6, 6), 3 * 100 + 500);
        due.is("set(2, 0, 0)", x.set(2, 0, 0), 100);
        due.is("most(3, 4, 6)", x.most(3, 4, 6), 27);
        due.is("set(2, 0, 1000)", x.set(2, 0, 1000), 0);
        due.is("most(3, 11, 39)", x.most(3, 11, 39), 3 * 1000 * 29);
        due.is("most(-1, 0, 0)", x.most(-1, 0, 0), -1);
        due.is("most(8, 0, 0)", x.most(8, 0, 0), -1);
        due.is("most(0, -1, 0)", x.most(0, -1, 0), -1);
        due.is("most(0, 0, 40)", x.most(0, 0, 40), -1);
        due.is("most(0, 1, 0)", x.most(0, 1, 0), -1);
    }
}
