import java.util.ArrayList;
import java.util.List;

/** All that an object can be asked, call by call; the object is spent by it. */
final class Everything {
    private static final int MOST_CALLS = 512;

    private final ChalkStreet x;
    private final List<String> calls = new ArrayList<>();
    private final List<Long> answers = new ArrayList<>();
    private final int squares;
    private final int tellings;

    private Everything(ChalkStreet x) {
        this.x = x;
        squares = x.count(0);
        tellings = x.count(2);
        counts();
        rules();
        won();
        near();
        told();
        texts();
        tape();
        for (int sheet = 0; sheet < 4; sheet++) sheet(sheet);
        taken();
    }

    /** Whether one object answers as the other one, after a call that the other one was not asked. */
    static void alike(Due due, String call, ChalkStreet asked, ChalkStreet unasked) {
        Everything one = new Everything(asked);
        Everything other = new Everything(unasked);
        due.is("how much can be asked after " + call, one.answers.size(), other.answers.size());
        for (int i = 0; i < one.answers.size() && i < other.answers.size(); i++) {
            due.is(one.calls.get(i) + " after " + call, one.answers.get(i), other.answers.get(i));
        }
    }

    private long ask(String call, long answer) {
        calls.add(call);
        answers.add(answer);
        // A scene takes some hundred calls: what is answered behind the last one is free.
        if (answers.size() > MOST_CALLS - 110) throw new IllegalStateException("too many calls");
        return answer;
    }

    private void counts() {
        for (int what = 0; what < 8; what++) ask("count(" + what + ")", x.count(what));
        for (int s = 0; s < 8; s++) ask("has(" + s + ")", x.has(s));
        for (int p = 0; p < 4; p++) ask("marbles(" + p + ")", x.marbles(p));
    }

    private void rules() {
        for (int s = 0; s < squares; s++) {
            ask("KIND of " + s, x.squareTold(s, 0));
            ask("NUMBER of " + s, x.squareTold(s, 1));
        }
    }

    private void won() {
        for (int s = 0; s < squares; s++) ask("worth(" + s + ")", x.worth(s));
        for (int i = -1; i < 2; i++) ask("mend(" + i + ")", x.mend(i));
        for (int what = 0; what < 3; what++) ask("plays(3, " + what + ")", x.plays(3, what));
    }

    private void near() {
        for (int what = 0; what < 3; what++) ask("tree(" + what + ")", x.tree(what));
        for (int t = 0; t < tellings; t++) {
            ask("child(" + t + ")", x.child(t));
            ask("changes(" + t + ", 0)", x.changes(t, 0));
            ask("quarrel(" + t + ", 0)", x.quarrel(t, 0));
            ask("says(" + t + ", 0)", x.says(t, 0));
            ask("says(" + t + ", 1)", x.says(t, 1));
            for (int s = 0; s < squares; s++) ask("stood(" + t + ", " + s + ")", x.stood(t, s));
        }
    }

    private void told() {
        for (int t = 0; t < tellings; t++) {
            ask("date(" + t + ", 0)", x.date(t, 0));
            ask("take(" + t + ")", x.take(t));
            ask("STEPS of " + t, x.count(1));
            rules();
        }
    }

    private void texts() {
        for (int text = x.count(3) - 1; text >= 0; text--) {
            ask("force(" + text + ")", x.force(text));
            ask("take of TEXT " + text, x.says(tellings - 1, 0));
            ask("keep of TEXT " + text, x.says(tellings - 1, 1));
        }
    }

    private void tape() {
        ask("feed 'eep year'", x.feed(8, 0x7261657920706565L));
        ask("feed ';'", x.feed(1, ';'));
        ask("force(0) ahead of THE TAPE", x.force((int) Math.max(0, ask("text()", x.text()))));
        ask("take of THE TAPE", x.says(0, 0));
        ask("keep of THE TAPE", x.says(0, 1));
    }

    private void sheet(int sheet) {
        if (ask("cell(" + sheet + ", -1, 0)", x.cell(sheet, -1, 0)) == -11) return;
        for (int sort = 0; sort < 3; sort++) {
            if (ask("squares(" + sheet + ", " + sort + ", 0, 4)", x.squares(sheet, sort, 0, 4)) == -13) continue;
            rules();
        }
        for (int i = 3; i < 9; i++) ask("cell(" + sheet + ", " + i + ", 0)", x.cell(sheet, i, 0));
    }

    private void taken() {
        for (int s = 0; s < squares; s++) ask("taken(" + s + ", 0)", x.taken(s, 0));
    }
}
