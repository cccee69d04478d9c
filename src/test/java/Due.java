/** Counts the answers that are not as due, and tells each of them. */
final class Due {
    private int answers = 0;
    private int wrong = 0;
    private String part = "";

    void part(String name) {
        part = name;
    }

    void is(String call, long got, long want) {
        answers++;
        if (got != want) {
            wrong++;
            System.out.println(part + ": " + call + " answered " + got + ", due is " + want);
        }
    }

    void holds(String what, boolean holds) {
        is(what, holds ? 1 : 0, 1);
    }

    /** Ends the program with 1 if an answer was wrong, or if there was none. */
    void end() {
        System.out.println(answers + " answers, " + wrong + " wrong");
        if (wrong != 0 || answers == 0) {
            System.exit(1);
        }
    }
}
