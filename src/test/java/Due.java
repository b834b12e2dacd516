/** Counts answers against those that are due, and ends the program with 1 if one was not. */
final class Due {
    private static final int MOST_TOLD = 20;

    private final String name;
    private String sentence = "";
    private int sentences = 0;
    private int right = 0;
    private int wrong = 0;

    Due(String name) {
        this.name = name;
    }

    /** The document's sentence that the answers from here on are due by, with its promise's number ahead. */
    void by(String sentence) {
        this.sentence = " [" + sentence + "]";
        sentences++;
    }

    void is(String call, long got, long want) {
        if (got == want) {
            right++;
            return;
        }
        wrong++;
        if (wrong > MOST_TOLD) return;
        System.out.println(name + sentence + ": " + call + " answered " + got + ", due is " + want);
    }

    void holds(String what, boolean so) {
        is(what, so ? 1 : 0, 1);
    }

    void end() {
        String by = sentences > 0 ? ", by " + sentences + " sentences" : "";
        System.out.println(name + ": " + right + " as due, " + wrong + " not" + by);
        if (wrong != 0 || right == 0) System.exit(1);
    }
}
