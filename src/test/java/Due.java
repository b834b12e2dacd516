import java.util.Set;
import java.util.TreeSet;

/** Counts answers against those that are due, and ends the program with 1 if one was not. */
final class Due {
    private static final int MOST_TOLD = 20;

    private final String name;
    private String sentence = "";
    private int sentences = 0;
    private final Set<Integer> promises = new TreeSet<>();
    private int right = 0;
    private int wrong = 0;

    Due(String name) {
        this.name = name;
    }

    /** The document's sentence that the answers from here on are due by, with its promise's number ahead. */
    void by(String sentence) {
        this.sentence = " [" + sentence + "]";
        sentences++;
        promises.add(Integer.parseInt(sentence.substring(0, sentence.indexOf(':'))));
    }

    /** Each of these promises has a sentence here. */
    void covers(int first, int last) {
        for (int promise = first; promise <= last; promise++) holds("promise " + promise, promises.contains(promise));
    }

    void is(String call, long got, long want) {
        if (got == want) {
            right++;
            return;
        }
        wrong++;
        if (wrong > MOST_TOLD) return;
        System.out.println(name + sentence + ": " + call + " answered " + got + ", due is " + want);
    }

    void holds(String what, boolean so) {
        is(what, so ? 1 : 0, 1);
    }

    void end() {
        String by = sentences > 0 ? ", by " + sentences + " sentences" : "";
        System.out.println(name + ": " + right + " as due, " + wrong + " not" + by);
        if (wrong != 0 || right == 0) System.exit(1);
    }
}
