/** Long runs of calls, made by a row of numbers that is always the same: each answer against the Model's. */
public final class ModelTest {
    private static final Due DUE = new Due("ModelTest");
    private static final int MOST_CALLS = 512;
    private static final String[] WORDS = {"take", "keep", "or", "and", "not", "year", "won", "lost", "endless",
        "steps", "own", "0", "1", "2", "3", "12", "9999", "12345", "(", ")", ";", "+", "-", "*", "<", "=", "#", "wo"};

    private long seed;
    private ChalkStreet x;
    private Model model;
    private StringBuilder calls;
    private int made = 0;

    private ModelTest(long seed) {
        this.seed = seed * 7919 + 13;
    }

    public static void main(String[] args) {
        int runs = args.length > 1 ? Integer.parseInt(args[1]) : 1500;
        for (int run = 0; run < runs; run++) new ModelTest(run).run(run);
        DUE.end();
    }

    private int any(int below) {
        seed = seed * 6364136223846793005L + 1442695040888963407L;
        return (int) ((seed >>> 33) % below);
    }

    /** Mostly one that is in the range, now and then one beside it or far away. */
    private int near(int least, int most) {
        int sort = any(24);
        if (sort == 0) return least - 1;
        if (sort == 1) return most + 1;
        if (sort == 2) return any(8) == 0 ? (any(2) == 0 ? Integer.MIN_VALUE : Integer.MAX_VALUE) : least;
        return least + any(most - least + 1);
    }

    /** What an object answers behind its last call is free. */
    private void is(String call, long got, long want) {
        made++;
        if (made > MOST_CALLS) return;
        calls.append(call).append("; ");
        DUE.is(got == want ? call : calls.toString(), got, want);
    }

    private void run(int run) {
        int size = run % 9 == 8 ? any(1 << 30) - (1 << 29) : run;
        x = new ChalkStreet(size);
        model = new Model(size);
        calls = new StringBuilder("new ChalkStreet(" + size + "); ");
        int sparse = any(3);
        for (int s = 0; s < 4; s++) {
            int items = 10 + any(31);
            is("sheet(" + s + ", " + s % 3 + ", " + items + ")", x.sheet(s, s % 3, items), model.sheet(s, s % 3, items));
        }
        while (made < MOST_CALLS) {
            switch (any(14)) {
                case 0:
                case 1: kinds(sparse); break;
                case 2:
                case 3: won(); break;
                case 4:
                case 5: tellings(); break;
                case 6: trees(); break;
                case 7:
                case 8: streets(); break;
                case 9: texts(); break;
                case 10: games(); break;
                case 11: if (any(4) == 0) counts(); break;
                default: host(); break;
            }
        }
    }

    private void kinds(int sparse) {
        if (any(4) == 0) {
            int set = any(3) == 0 ? near(1, 31) : 1 << any(5) | (any(2) == 0 ? 1 << any(5) : 0);
            is("steps(" + set + ")", x.steps(set), model.steps(set));
            return;
        }
        int s = near(0, model.n - 1);
        int kind = any(3) < sparse ? 0 : near(0, 5);
        int number = near(0, 9);
        is("square(" + s + ", " + kind + ", " + number + ")", x.square(s, kind, number), model.square(s, kind, number));
    }

    private void won() {
        int s = near(0, model.n - 1);
        int what = near(0, 2);
        is("worth(" + s + ")", x.worth(s), model.worth(s));
        is("best(" + s + ")", x.best(s), model.best(s));
        is("many(" + what + ")", x.many(what), model.many(what));
        is("ring(" + s + ")", x.ring(s), model.ring(s));
        if (any(6) == 0) {
            for (int i = -2; i <= 2; i++) is("mend(" + i + ")", x.mend(i), model.mend(i));
        }
        int m = near(0, 12);
        boolean small = Math.pow(model.law.steps().size(), Math.min(m, 12)) < 20000;
        if (small) is("plays(" + m + ", " + what + ")", x.plays(m, what), model.plays(m, what));
    }

    private void tellings() {
        int t = near(0, Math.max(0, model.tellings.size() - 1));
        int s = near(0, model.n - 1);
        int year = any(3) == 0 ? near(0, 999) : any(6);
        int town = near(0, 9);
        switch (any(6)) {
            case 0:
            case 1: is("telling(" + year + ", " + town + ")", x.telling(year, town), model.telling(year, town)); break;
            case 2: is("gap(" + t + ", " + s + ")", x.gap(t, s), model.gap(t, s)); break;
            case 3: is("date(" + t + ", " + year + ")", x.date(t, year), model.date(t, year)); break;
            default: is("take(" + t + ")", x.take(t), model.take(t)); break;
        }
    }

    private void trees() {
        int a = near(0, Math.max(0, model.tellings.size() - 1));
        int b = near(0, Math.max(0, model.tellings.size() - 1));
        int s = gapOf(a, near(0, model.n - 1));
        int what = near(0, 2);
        is("changes(" + a + ", " + b + ")", x.changes(a, b), model.changes(a, b));
        is("child(" + a + ")", x.child(a), model.child(a));
        is("tree(" + what + ")", x.tree(what), model.tree(what));
        is("stood(" + a + ", " + s + ")", x.stood(a, s), model.stood(a, s));
        is("quarrel(" + a + ", " + b + ")", x.quarrel(a, b), model.quarrel(a, b));
    }

    /** A GAP of a telling near a square, if it has one. */
    private int gapOf(int telling, int square) {
        if (telling < 0 || telling >= model.tellings.size() || square < 0 || square >= model.n) {
            return square;
        }
        boolean[] gap = model.tellings.get(telling).gap;
        for (int i = 0; i < gap.length && any(30) != 0; i++) if (gap[(square + i) % gap.length]) return (square + i) % gap.length;
        return square;
    }

    private void streets() {
        int street = near(0, 7);
        int t = near(-1, model.tellings.size() - 1);
        int part = near(0, 1);
        int years = any(3) == 0 ? near(1, 30) : 1;
        int text = near(0, model.texts.size() - 1);
        switch (any(6)) {
            case 0:
            case 1: is("street(" + street + ", " + t + ")", x.street(street, t), model.street(street, t)); break;
            case 2: is("years(" + years + ")", x.years(years), model.years(years)); break;
            case 3: is("force(" + text + ")", x.force(text), model.force(text)); break;
            default: is("says(" + t + ", " + part + ")", x.says(t, part), model.says(t, part)); break;
        }
        for (int i = 0; i < 8; i++) is("has(" + i + ")", x.has(i), model.has(i));
        is("has(" + street + ")", x.has(street), model.has(street));
    }

    private String e(int deep) {
        String one = any(2) == 0 ? WORDS[5 + any(6)] : any(4) == 0 ? "" + any(10000) : "" + any(5);
        if (deep == 0) return one;
        switch (any(9)) {
            case 0: return "(" + e(deep - 1) + ")";
            case 1: return "-" + e(deep - 1);
            case 2: return "not " + e(deep - 1);
            case 3: return e(deep - 1) + " or " + e(deep - 1);
            case 4: return e(deep - 1) + " and " + e(deep - 1);
            case 5: return e(deep - 1) + (any(2) == 0 ? "<" : " =\n") + e(deep - 1);
            case 6: return e(deep - 1) + (any(2) == 0 ? "+" : " - ") + e(deep - 1);
            case 7: return e(deep - 1) + "*" + e(deep - 1);
            default: return one;
        }
    }

    private String textAtHand() {
        StringBuilder text = new StringBuilder();
        if (any(3) == 0) {
            for (int i = any(12); i >= 0; i--) text.append(WORDS[any(WORDS.length)]).append(any(2) == 0 ? " " : "");
            return text.toString();
        }
        text.append("take ").append(e(any(5))).append(";keep ").append(e(any(5))).append(any(9) == 0 ? "" : ";");
        if (any(3) == 0) text.insert(any(text.length()), WORDS[any(WORDS.length)] + " ");
        if (any(4) == 0) text.setCharAt(any(text.length()), (char) any(256));
        if (any(9) == 0) text.deleteCharAt(any(text.length()));
        return text.toString();
    }

    private void feed(String text) {
        for (int i = 0; i < text.length(); ) {
            int n = Math.min(1 + any(8), text.length() - i);
            long bytes = any(2) == 0 ? -1L << 8 * n - 1 << 1 : 0;
            for (int k = 0; k < n; k++) bytes |= (long) text.charAt(i + k) << 8 * k;
            is("feed(" + n + ", " + bytes + "L)", x.feed(n, bytes), model.feed(n, bytes));
            i += n;
        }
    }

    private void texts() {
        feed(textAtHand());
        int bad = near(1, 8);
        if (any(9) == 0) is("feed(" + bad + ", 0)", x.feed(bad, 0), model.feed(bad, 0));
        if (any(9) != 0) is("text()", x.text(), model.text());
    }

    private long row() {
        if (any(12) == 0) return any(2) == 0 ? -any(99) : 999999999999999990L + any(30);
        StringBuilder way = new StringBuilder();
        for (int i = any(any(3) == 0 ? 18 : 6); i >= 0 && (any(20) == 0 || model.play(rowOf(way)) < 100); i--) {
            int step = any(20) == 0 ? any(10) : 1 + any(5);
            for (int j = 0; j < 20 && (step > 5 || step < 1 || !model.law.step[step]) && any(20) != 0; j++) step = 1 + any(5);
            way.append(step);
        }
        return rowOf(way);
    }

    private static long rowOf(StringBuilder way) {
        return Long.parseLong("0" + new StringBuilder(way).reverse());
    }

    private void games() {
        long row = row();
        int first = near(0, 3);
        int second = near(0, 3);
        int stake = near(0, 9);
        is("play(" + row + "L)", x.play(row), model.play(row));
        is("game(" + first + ", " + second + ", " + stake + ", " + row + "L)",
            x.game(first, second, stake, row), model.game(first, second, stake, row));
        for (int p = -1; p <= 4; p++) is("marbles(" + p + ")", x.marbles(p), model.marbles(p));
    }

    private void counts() {
        for (int i = -1; i <= 8; i++) is("count(" + i + ")", x.count(i), model.count(i));
        for (int s = 0; s <= model.n; s++) {
            for (int what = -1; what <= 2; what++) {
                is("squareTold(" + s + ", " + what + ")", x.squareTold(s, what), model.squareTold(s, what));
            }
        }
    }

    /** A SHEET is made anew; those beside it are read then. */
    private void anew(int sheet, int sort, int size) {
        is("sheet(" + sheet + ", " + sort + ", " + size + ")", x.sheet(sheet, sort, size), model.sheet(sheet, sort, size));
        for (int o = 0; o < 4; o++) {
            is("squares(" + o + ", " + o % 3 + ", 0, 5)", x.squares(o, o % 3, 0, 5), model.squares(o, o % 3, 0, 5));
            for (int s = 0; s < 4; s++) is("squareTold(" + s + ", 0)", x.squareTold(s, 0), model.squareTold(s, 0));
        }
    }

    private void host() {
        int s = near(0, 3);
        int o = any(2) == 0 ? near(0, 3) : any(2) == 0 ? s : 3 - s;
        int sort = any(4) == 0 ? near(-1, 2) : s % 3;
        int size = any(3) == 0 ? near(0, 40) : 20 + any(21);
        int i = any(6) == 0 ? near(0, 40) : any(14);
        int j = any(6) == 0 ? near(0, 40) : any(14);
        int n = any(4) == 0 ? near(0, 10) : any(10);
        int v = any(4) == 0 ? any(1 << 30) << any(3) : any(256) == 0 ? -any(9) : any(7) + (any(6) == 0 ? 256 << any(9) : 0);
        int k = near(0, 5);
        int square = near(0, model.n - 1);
        switch (any(8)) {
            case 0: if (any(3) == 0) anew(s, sort, size); break;
            case 1:
            case 2:
            case 3: is("cell(" + s + ", " + i + ", " + v + ")", x.cell(s, i, v), model.cell(s, i, v)); break;
            case 4: is("copy(" + s + ", " + i + ", " + o + ", " + j + ", " + n + ")",
                    x.copy(s, i, o, j, n), model.copy(s, i, o, j, n)); break;
            case 5: is("squares(" + s + ", " + sort + ", " + i + ", " + n + ")",
                    x.squares(s, sort, i, n), model.squares(s, sort, i, n)); break;
            default: is("taken(" + square + ", " + k + ")", x.taken(square, k), model.taken(square, k)); break;
        }
    }
}
