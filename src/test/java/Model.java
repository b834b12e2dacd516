import java.util.ArrayList;
import java.util.HashMap;
import java.util.List;
import java.util.Map;
import java.util.TreeMap;

/** The document once more, read slowly and by other ways than the class: by definitions, trials and whole searches. */
final class Model {
    static final long NO = -4611686018427387904L;

    /** Kind and number of each square, and which steps are allowed. */
    static final class Law {
        int[] kind;
        int[] number;
        boolean[] step = new boolean[6];

        Law(int n) {
            kind = new int[n];
            number = new int[n];
        }

        Law twin() {
            Law law = new Law(kind.length);
            law.kind = kind.clone();
            law.number = number.clone();
            law.step = step.clone();
            return law;
        }

        int bits() {
            int bits = 0;
            for (int d = 1; d <= 5; d++) if (step[d]) bits += 1 << d - 1;
            return bits;
        }

        void bits(int bits) {
            for (int d = 1; d <= 5; d++) step[d] = (bits & 1 << d - 1) != 0;
        }

        List<Integer> steps() {
            List<Integer> steps = new ArrayList<>();
            for (int d = 1; d <= 5; d++) if (step[d]) steps.add(d);
            return steps;
        }

        /** "w", "l" for the mover's end, else "o" or "s" (who is to move) and where the stone lies. */
        String move(int from, int d) {
            int n = kind.length;
            int c = (from + d) % n;
            int lies = c;
            for (int i = 0; kind[c] == 4 && i < number[c]; i++) lies = lies == 0 ? n - 1 : lies - 1;
            String sort = kind[c] == 1 || kind[c] == 4 ? "s" : kind[c] == 2 ? "l" : "o";
            if (kind[c] == 3 || kind[c] == 5 && d > number[c]) sort = "w";
            return sort.equals("w") || sort.equals("l") ? sort : sort + lies;
        }
    }

    static final class Telling {
        Law law;
        boolean[] gap;
        int year;
        int town;

        Law plain() {
            Law plain = law.twin();
            for (int s = 0; s < gap.length; s++) {
                if (!gap[s]) continue;
                plain.kind[s] = 0;
                plain.number[s] = 0;
            }
            return plain;
        }
    }

    final int n;
    Law law;
    final List<Telling> tellings = new ArrayList<>();
    final StringBuilder tape = new StringBuilder();
    final List<TextModel> texts = new ArrayList<>();
    int rule = 0;
    int year = 0;
    int[] has = {-1, -1, -1, -1, -1, -1, -1, -1};
    final int[] marbles = {20, 20, 20, 20};
    final Object[] sheets = new Object[4];

    Model(int squares) {
        int size = squares % 7;
        n = 4 + (size < 0 ? size + 7 : size);
        law = new Law(n);
        law.step[1] = true;
        texts.add(new TextModel("take won ; keep endless < 3 ;"));
    }

    private boolean square(int s) {
        return 0 <= s && s < n;
    }

    private boolean told(int t) {
        return 0 <= t && t < tellings.size();
    }

    int square(int s, int kind, int number) {
        if (!square(s) || kind < 0 || kind > 5 || number < 0 || number > 9) return -2;
        int before = law.kind[s];
        law.kind[s] = kind;
        law.number[s] = number;
        return before;
    }

    int steps(int set) {
        if (set < 1 || set > 31) return -2;
        int before = law.bits();
        law.bits(set);
        return before;
    }

    int squareTold(int s, int what) {
        if (!square(s)) return -2;
        return what == 0 ? law.kind[s] : what == 1 ? law.number[s] : -2;
    }

    // ---- worths: "won (lost) within k moves" by its definition, and the least such k

    private static Boolean[][][] within(Law law, int most) {
        int n = law.kind.length;
        Boolean[][][] within = new Boolean[2][most + 1][n];
        for (int s = 0; s < n; s++) within[0][0][s] = within[1][0][s] = false;
        for (int k = 1; k <= most; k++) {
            for (int s = 0; s < n; s++) {
                boolean some = false;
                boolean all = true;
                for (int d : law.steps()) {
                    String move = law.move(s, d);
                    char sort = move.charAt(0);
                    int to = move.length() > 1 ? move.charAt(1) - '0' : 0;
                    some |= sort == 'w' || sort == 'o' && within[1][k - 1][to] || sort == 's' && within[0][k - 1][to];
                    all &= sort == 'l' || sort == 'o' && within[0][k - 1][to] || sort == 's' && within[1][k - 1][to];
                }
                within[0][k][s] = some;
                within[1][k][s] = all;
            }
        }
        return within;
    }

    static int[] worths(Law law) {
        int n = law.kind.length;
        Boolean[][][] within = within(law, 2 * n);
        int[] worths = new int[n];
        for (int s = 0; s < n; s++) {
            for (int k = 2 * n; k >= 1; k--) {
                if (within[0][k][s]) worths[s] = k;
                if (within[1][k][s]) worths[s] = -100 - k;
            }
        }
        return worths;
    }

    static int[] sums(Law law) {
        int[] sums = new int[3];
        for (int w : worths(law)) sums[w > 0 ? 0 : w < 0 ? 1 : 2]++;
        return sums;
    }

    int worth(int s) {
        return square(s) ? worths(law)[s] : -2;
    }

    private static int best(Law law, int s) {
        int[] worths = worths(law);
        for (int d : law.steps()) {
            String move = law.move(s, d);
            int there = move.length() > 1 ? worths[move.charAt(1) - '0'] : 0;
            boolean other = move.charAt(0) == 'o';
            int k = worths[s] > 0 ? worths[s] : -100 - worths[s];
            int won = other ? -100 - (k - 1) : k - 1;
            int lost = other ? k - 1 : -100 - (k - 1);
            if (worths[s] == 0 && move.length() > 1 && there == 0) return d;
            if (worths[s] > 0 && (move.equals("w") ? k == 1 : move.length() > 1 && k > 1 && there == won)) return d;
            if (worths[s] < 0 && (move.equals("l") ? k == 1 : move.length() > 1 && k > 1 && there == lost)) return d;
        }
        throw new IllegalStateException("no best step");
    }

    int best(int s) {
        return square(s) ? best(law, s) : -2;
    }

    int many(int what) {
        return what < 0 || what > 2 ? -2 : sums(law)[what];
    }

    int ring(int s) {
        if (!square(s)) return -2;
        if (worths(law)[s] != 0) return -1;
        List<Integer> way = new ArrayList<>();
        int here = s;
        while (!way.contains(here)) {
            way.add(here);
            here = law.move(here, best(law, here)).charAt(1) - '0';
        }
        int bits = 0;
        for (int i = way.indexOf(here); i < way.size(); i++) bits += 1 << way.get(i);
        return bits;
    }

    private Law changed(int... changes) {
        Law other = law.twin();
        for (int c : changes) {
            if (other.kind[c / 10] == c % 10) return null;
            other.kind[c / 10] = c % 10;
        }
        return other;
    }

    private static boolean mended(Law law) {
        return law != null && sums(law)[2] == 0;
    }

    int[] mending() {
        if (mended(law)) return new int[0];
        for (int c = 0; c < 10 * n; c++) if (c % 10 < 4 && mended(changed(c))) return new int[] {c};
        for (int c = 0; c < 10 * n; c++) {
            for (int e = 10 * (c / 10 + 1); e < 10 * n; e++) {
                if (c % 10 < 4 && e % 10 < 4 && mended(changed(c, e)) && changed(c) != null) return new int[] {c, e};
            }
        }
        return null;
    }

    int mend(int i) {
        int[] mending = mending();
        if (i == -1) return mending == null ? -1 : mending.length;
        return mending == null || i < 0 || i >= mending.length ? -1 : mending[i];
    }

    // ---- plays

    private long[] ends(int place, boolean first, int left) {
        if (left == 0) return new long[] {0, 0, 1};
        long[] sum = new long[3];
        for (int d : law.steps()) {
            String move = law.move(place, d);
            if (move.length() == 1) {
                if (left == 1) sum[move.equals("w") == first ? 0 : 1]++;
                continue;
            }
            long[] more = ends(move.charAt(1) - '0', move.charAt(0) == 's' == first, left - 1);
            for (int i = 0; i < 3; i++) sum[i] += more[i];
        }
        return sum;
    }

    long plays(int m, int what) {
        return m < 0 || m > 12 || what < 0 || what > 2 ? NO : ends(0, true, m)[what];
    }

    int play(long row) {
        String digits = Long.toString(row);
        if (row < 0 || digits.length() > 18) return -2;
        String way = new StringBuilder(digits).reverse().toString();
        if (way.indexOf('0') >= 0) way = way.substring(0, way.indexOf('0'));
        return game(law, way);
    }

    /** As play() tells it, of steps from the first on. */
    private static int game(Law law, String way) {
        int place = 0;
        int mover = 0;
        int over = -1;
        for (int i = 0; i < way.length(); i++) {
            int d = way.charAt(i) - '0';
            if (over >= 0 || d > 5 || !law.step[d]) return -100 - i;
            String move = law.move(place, d);
            if (move.equals("w")) over = 100 + mover;
            else if (move.equals("l")) over = 101 - mover;
            else {
                place = move.charAt(1) - '0';
                if (move.charAt(0) == 'o') mover = 1 - mover;
            }
        }
        return over >= 0 ? over : 10 * mover + place;
    }

    // ---- tellings

    int telling(int year, int town) {
        if (year < 0 || year > 999 || town < 0 || town > 9) return -2;
        if (tellings.size() == 12) return -4;
        Telling t = new Telling();
        t.law = law.twin();
        t.gap = new boolean[n];
        t.year = year;
        t.town = town;
        tellings.add(t);
        return tellings.size() - 1;
    }

    private int gaps(int t) {
        int gaps = 0;
        for (boolean g : tellings.get(t).gap) if (g) gaps++;
        return gaps;
    }

    int gap(int t, int s) {
        if (!told(t) || !square(s)) return -2;
        if (tellings.get(t).gap[s]) return -3;
        tellings.get(t).gap[s] = true;
        return gaps(t);
    }

    int date(int t, int year) {
        if (!told(t) || year < 0 || year > 999) return -2;
        int before = tellings.get(t).year;
        tellings.get(t).year = year;
        return before;
    }

    int take(int t) {
        if (!told(t)) return -2;
        law = tellings.get(t).plain();
        return gaps(t);
    }

    int changes(int a, int b) {
        if (!told(a) || !told(b)) return -2;
        Telling x = tellings.get(a);
        Telling y = tellings.get(b);
        int changes = 0;
        for (int d = 1; d <= 5; d++) if (x.law.step[d] != y.law.step[d]) changes++;
        for (int s = 0; s < n; s++) {
            boolean unlike = x.law.kind[s] != y.law.kind[s] || x.law.number[s] != y.law.number[s];
            if (unlike && !x.gap[s] && !y.gap[s]) changes++;
        }
        return changes;
    }

    int child(int t) {
        if (!told(t)) return -2;
        TreeMap<Integer, Integer> by = new TreeMap<>();
        for (int o = 0; o < tellings.size(); o++) {
            if (tellings.get(o).year < tellings.get(t).year) by.put(100 * changes(t, o) + o, o);
        }
        return by.isEmpty() ? -1 : by.firstEntry().getValue();
    }

    int tree(int what) {
        int[] sums = new int[3];
        for (int t = 0; t < tellings.size(); t++) {
            int parent = child(t);
            if (parent < 0) sums[2]++;
            if (parent >= 0) sums[0] += changes(t, parent);
            if (parent >= 0 && tellings.get(t).town != tellings.get(parent).town) sums[1]++;
        }
        return what < 0 || what > 2 ? -2 : sums[what];
    }

    int stood(int t, int s) {
        if (!told(t) || !square(s)) return -2;
        if (!tellings.get(t).gap[s]) return -3;
        int[] others = new int[6];
        for (int o = 0; o < tellings.size(); o++) {
            if (o != child(t) && child(o) != t || tellings.get(o).gap[s]) continue;
            for (int k = 0; k < 6; k++) if (tellings.get(o).law.kind[s] != k) others[k]++;
        }
        int bits = 0;
        for (int k = 0; k < 6; k++) {
            boolean fewest = true;
            for (int j = 0; j < 6; j++) fewest &= others[k] <= others[j];
            if (fewest) bits += 1 << k;
        }
        return bits;
    }

    long quarrel(int a, int b) {
        if (!told(a) || !told(b)) return NO;
        Law one = tellings.get(a).plain();
        Law two = tellings.get(b).plain();
        Map<String, String> known = new HashMap<>();
        TreeMap<String, String> level = new TreeMap<>();
        level.put("", "0,0");
        known.put("0,0", "");
        while (!level.isEmpty()) {
            TreeMap<String, String> then = new TreeMap<>();
            for (String way : level.keySet()) {
                for (int d = 1; d <= 5; d++) {
                    if (!one.step[d] || !two.step[d]) continue;
                    String longer = way + d;
                    int x = game(one, longer);
                    int y = game(two, longer);
                    boolean alike = x >= 100 || y >= 100 ? x == y : x / 10 == y / 10;
                    if (!alike) return longer.length() > 18 ? -2 : Long.parseLong(new StringBuilder(longer).reverse().toString());
                    if (x < 100 && known.putIfAbsent(x % 10 + "," + y % 10, longer) == null) then.put(longer, "");
                }
            }
            level = then;
        }
        return -1;
    }

    // ---- streets

    int feed(int n, long bytes) {
        if (n < 1 || n > 8) return -2;
        if (tape.length() + n > 160) return -4;
        for (int i = 0; i < n; i++) tape.append((char) (bytes >> 8 * i & 0xff));
        return tape.length();
    }

    int text() {
        if (texts.size() == 6) return -4;
        TextModel text = new TextModel(tape.toString());
        tape.setLength(0);
        if (text.fault >= 0) return -100 - text.fault;
        texts.add(text);
        return texts.size() - 1;
    }

    int force(int t) {
        if (t < 0 || t >= texts.size()) return -2;
        int before = rule;
        rule = t;
        return before;
    }

    long says(int t, int part) {
        return !told(t) || part < 0 || part > 1 ? NO : comesTo(t, part);
    }

    private int comesTo(int t, int part) {
        Telling telling = tellings.get(t);
        Law plain = telling.plain();
        int[] sums = sums(plain);
        Map<String, Integer> names = new HashMap<>();
        names.put("year", year);
        names.put("won", sums[0]);
        names.put("lost", sums[1]);
        names.put("endless", sums[2]);
        names.put("steps", plain.steps().size());
        names.put("own", telling.year);
        return texts.get(rule).value(part, names);
    }

    int street(int s, int t) {
        if (s < 0 || s > 7 || t != -1 && !told(t)) return -5;
        int before = has[s];
        has[s] = t;
        return before;
    }

    int years(int many) {
        if (many < 1 || many > 30) return -2;
        if (year + many > 999) return -4;
        for (int i = 0; i < many; i++) {
            year++;
            int[] then = new int[8];
            for (int s = 0; s < 8; s++) then[s] = after(s);
            has = then;
        }
        return year;
    }

    private int after(int s) {
        if (has[s] != -1 && comesTo(has[s], 1) == 0) return -1;
        int own = has[s] == -1 ? -1000000 : comesTo(has[s], 0);
        int lesser = has[(s + 7) % 8];
        int other = has[(s + 1) % 8];
        int chosen = lesser == -1 ? other : lesser;
        if (lesser != -1 && other != -1 && comesTo(other, 0) > comesTo(lesser, 0)) chosen = other;
        return chosen != -1 && comesTo(chosen, 0) > own ? chosen : has[s];
    }

    int has(int s) {
        return s < 0 || s > 7 ? -2 : has[s];
    }

    int game(int first, int second, int stake, long row) {
        if (first < 0 || first > 3 || second < 0 || second > 3 || first == second) return -2;
        if (stake < 0 || stake > 9 || play(row) == -2) return -2;
        int end = play(row);
        if (end <= -100) return -3;
        if (end < 100) return 2;
        int loser = end == 100 ? second : first;
        int winner = end == 100 ? first : second;
        for (int i = 0; i < stake && marbles[loser] > 0; i++) {
            marbles[loser]--;
            marbles[winner]++;
        }
        return end - 100;
    }

    int marbles(int p) {
        return p < 0 || p > 3 ? -2 : marbles[p];
    }

    int count(int what) {
        int follow = 0;
        for (int t : has) if (t != -1) follow++;
        int[] counts = {n, law.bits(), tellings.size(), texts.size(), tape.length(), rule, year, follow};
        return what < 0 || what > 7 ? -2 : counts[what];
    }

    // ---- the host: here the machine itself is asked what it throws

    private static boolean sheet(int s) {
        return 0 <= s && s < 4;
    }

    int sheet(int s, int sort, int size) {
        if (!sheet(s) || sort < -1 || sort > 2 || sort >= 0 && size > 40) return -2;
        try {
            sheets[s] = sort == 0 ? new byte[size] : sort == 1 ? new short[size] : sort == 2 ? new int[size] : null;
            return 1;
        } catch (NegativeArraySizeException e) {
            return -14;
        }
    }

    int cell(int s, int i, int v) {
        if (!sheet(s)) return -2;
        try {
            if (sheets[s] instanceof byte[]) ((byte[]) sheets[s])[i] = (byte) v;
            else if (sheets[s] instanceof short[]) ((short[]) sheets[s])[i] = (short) v;
            else ((int[]) sheets[s])[i] = v;
            return 1;
        } catch (NullPointerException e) {
            return -11;
        } catch (ArrayIndexOutOfBoundsException e) {
            return -12;
        }
    }

    int copy(int s, int i, int other, int j, int many) {
        if (!sheet(s) || !sheet(other)) return -2;
        try {
            System.arraycopy(sheets[s], i, sheets[other], j, many);
            return many;
        } catch (NullPointerException e) {
            return -11;
        } catch (ArrayStoreException e) {
            return -13;
        } catch (ArrayIndexOutOfBoundsException e) {
            return -12;
        }
    }

    int squares(int s, int sort, int from, int many) {
        if (!sheet(s) || sort < 0 || sort > 2 || many < 0 || many > 10) return -2;
        try {
            Object sheet = sort == 0 ? (byte[]) sheets[s] : sort == 1 ? (short[]) sheets[s] : (int[]) sheets[s];
            if (sheet == null) return -11;
            int told = 0;
            for (int q = 0; q < many; q++) {
                int kind = java.lang.reflect.Array.getInt(sheet, from + 2 * q);
                int number = java.lang.reflect.Array.getInt(sheet, from + 2 * q + 1);
                if (square(q, kind, number) != -2) told++;
            }
            return told;
        } catch (ClassCastException e) {
            return -13;
        } catch (ArrayIndexOutOfBoundsException e) {
            return -12;
        }
    }

    static class Plain { int number; }
    static class Again extends Plain { }
    static class Out extends Plain { }
    static class Home extends Plain { }
    static final class Back extends Again { }
    static final class Far extends Home { }

    int taken(int s, int k) {
        if (k < 0 || k > 5) return -2;
        if (!square(s)) return -11;
        Plain[] made = {new Plain(), new Again(), new Out(), new Home(), new Back(), new Far()};
        Class<?>[] kinds = {Plain.class, Again.class, Out.class, Home.class, Back.class, Far.class};
        return kinds[k].isInstance(made[law.kind[s]]) ? law.number[s] : -13;
    }
}
