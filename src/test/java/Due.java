/** Counts the calls of a test and prints each whose answer is not the one that is due. */
final class Due {
    private final String test;
    private String sentence = "";
    private int calls = 0;
    private int wrong = 0;

    Due(String test) {
        this.test = test;
    }

    /** The sentence of the document that the calls to come look at: told with each that is wrong. */
    void said(String sentence) {
        this.sentence = " [" + sentence + "]";
    }

    /** What was answered, and what is due. */
    void is(String call, long got, long want) {
        calls++;
        if (got != want) {
            wrong++;
            System.out.println(test + ": " + call + " answered " + got + ", due is " + want + sentence);
        }
    }

    void holds(String what, boolean right) {
        calls++;
        if (!right) {
            wrong++;
            System.out.println(test + ": not so: " + what + sentence);
        }
    }

    int wrong() {
        return wrong;
    }

    /** Ends the program with exit code 1 if an answer was wrong. */
    void end() {
        System.out.println(test + ": " + calls + " answers looked at, " + wrong + " not as due");
        if (wrong != 0) {
            System.exit(1);
        }
    }
}
