/** Promises 12 to 20: each sentence that names a bound, just inside it and just outside. */
public final class TellingsBoundsTest {
    private static final Due DUE = new Due("TellingsBoundsTest");
    private static final Refused REFUSED = new Refused(DUE);
    private static final int MIN = Integer.MIN_VALUE, MAX = Integer.MAX_VALUE;
    private static final long EIGHTEEN = 111111111111111111L;

    public static void main(String[] args) {
        tellingYear();
        tellingTown();
        tellingTwelve();
        tellingBadAheadOfFull();
        tellingKeepsTheSet();
        tellingRefused();
        gapTellings();
        gapSquares();
        gapIsOne();
        gapRefused();
        dateYears();
        dateRefused();
        takeGaps();
        takeRefused();
        changesNoneAndAll();
        changesGaps();
        changesRefused();
        childLesserYear();
        childLeastNumber();
        childGaps();
        childRefused();
        treeNoneAndAll();
        treeMoved();
        treeRefused();
        stoodKinds();
        stoodNobody();
        stoodFewest();
        stoodRefused();
        quarrelNever();
        quarrelFirstStep();
        quarrelEighteen();
        quarrelOverAhead();
        quarrelLikeOnes();
        quarrelGaps();
        quarrelAgain();
        quarrelRefused();
        DUE.covers(12, 20);
        DUE.end();
    }

    private static int gaps(ChalkStreet x, int telling) {
        return x.take(telling);
    }

    // ---- 12

    private static void tellingYear() {
        DUE.by("12: a YEAR (0 .. 999)");
        ChalkStreet x = Scenes.ring(4);
        DUE.is("telling(0, 5)", x.telling(0, 5), 0);
        DUE.is("telling(999, 5)", x.telling(999, 5), 1);
        for (int year : new int[] {-1, 1000, MIN, MAX}) DUE.is("telling(" + year + ", 5)", x.telling(year, 5), -2);
        DUE.is("no more told", x.count(2), 2);
        DUE.is("the YEAR 0", x.date(0, 1), 0);
        DUE.is("the YEAR 999", x.date(1, 1), 999);
    }

    private static void tellingTown() {
        DUE.by("12: a TOWN (0 .. 9)");
        ChalkStreet x = Scenes.ring(4);
        DUE.is("telling(5, 0)", x.telling(5, 0), 0);
        DUE.is("telling(6, 9)", x.telling(6, 9), 1);
        for (int town : new int[] {-1, 10, MIN, MAX}) DUE.is("telling(7, " + town + ")", x.telling(7, town), -2);
        DUE.is("no more told", x.count(2), 2);
        DUE.is("of another TOWN", x.tree(1), 1);
    }

    private static void tellingTwelve() {
        DUE.by("12: TELLINGS (12 at most, numbered from 0); FULL");
        ChalkStreet x = Scenes.ring(10);
        for (int i = 0; i < 12; i++) {
            DUE.is("the last but one", x.child(i - 1), i == 0 ? -2 : -1);
            DUE.is("not told yet", x.child(i), -2);
            DUE.is("telling " + i, x.telling(0, 0), i);
            DUE.is("count(2)", x.count(2), i + 1);
        }
        DUE.is("the thirteenth", x.telling(0, 0), -4);
        DUE.is("the thirteenth again", x.telling(999, 9), -4);
        DUE.is("count(2)", x.count(2), 12);
        DUE.is("none such", x.child(12), -2);
    }

    private static void tellingBadAheadOfFull() {
        DUE.by("12: BAD: YEAR, TOWN; FULL: the first that the words name");
        REFUSED.ofFull("telling(1000, 0)", x -> x.telling(1000, 0), -2);
        REFUSED.ofFull("telling(0, 10)", x -> x.telling(0, 10), -2);
        REFUSED.ofFull("telling(-1, -1)", x -> x.telling(-1, -1), -2);
        REFUSED.ofFull("telling(0, 0)", x -> x.telling(0, 0), -4);
        REFUSED.ofFull("telling(999, 9)", x -> x.telling(999, 9), -4);
    }

    private static void tellingKeepsTheSet() {
        DUE.by("12: keep THE SET as it is then");
        ChalkStreet x = Scenes.ring(10);
        x.square(0, 5, 9);
        x.square(9, 4, 8);
        x.steps(31);
        x.telling(3, 3);
        x.square(0, 1, 1);
        x.square(9, 2, 2);
        x.steps(1);
        x.telling(3, 3);
        DUE.is("as they are now", x.changes(0, 1), 2 + 4);
        x.take(0);
        DUE.is("the first", 10 * x.squareTold(0, 0) + x.squareTold(0, 1), 59);
        DUE.is("the last", 10 * x.squareTold(9, 0) + x.squareTold(9, 1), 48);
        DUE.is("STEPS", x.count(1), 31);
        x.square(0, 0, 0);
        x.take(0);
        DUE.is("the first again", 10 * x.squareTold(0, 0) + x.squareTold(0, 1), 59);
    }

    private static void tellingRefused() {
        DUE.by("12: BAD; refusals change nothing");
        REFUSED.ofSome("telling(-1, 0)", x -> x.telling(-1, 0), -2);
        REFUSED.ofSome("telling(1000, 0)", x -> x.telling(1000, 0), -2);
        REFUSED.ofSome("telling(0, -1)", x -> x.telling(0, -1), -2);
        REFUSED.ofSome("telling(0, 10)", x -> x.telling(0, 10), -2);
    }

    // ---- 13

    private static void gapTellings() {
        DUE.by("13: a SQUARE is a GAP in a TELLING. BAD");
        ChalkStreet x = Scenes.ring(4);
        DUE.is("none told", x.gap(0, 0), -2);
        for (int i = 0; i < 12; i++) {
            x.telling(0, 0);
            DUE.is("the last told", x.gap(i, 3), 1);
            DUE.is("not told yet", x.gap(i + 1, 3), -2);
            DUE.is("below", x.gap(-1, 3), -2);
        }
        for (int t : new int[] {12, MIN, MAX}) DUE.is("gap(" + t + ", 0)", x.gap(t, 0), -2);
    }

    private static void gapSquares() {
        DUE.by("13: how many it has");
        for (int n = 4; n <= 10; n++) {
            ChalkStreet x = Scenes.ring(n);
            x.telling(0, 0);
            x.telling(0, 0);
            for (int s = n - 1; s >= 0; s--) DUE.is("gap(0, " + s + ") of " + n, x.gap(0, s), n - s);
            for (int s : new int[] {-1, n, 31, 32, 33, MIN, MAX}) DUE.is("gap(0, " + s + ") of " + n, x.gap(0, s), -2);
            DUE.is("all of them", gaps(x, 0), n);
            DUE.is("none of the other one's", gaps(x, 1), 0);
            DUE.is("the other one's first", x.gap(1, 0), 1);
        }
    }

    private static void gapIsOne() {
        DUE.by("13: STATE: it is one");
        ChalkStreet x = Scenes.ring(10);
        x.telling(0, 0);
        for (int s = 0; s < 10; s++) {
            DUE.is("it is none", x.gap(0, s), s + 1);
            DUE.is("it is one", x.gap(0, s), -3);
        }
        DUE.is("as many as were made", gaps(x, 0), 10);
    }

    private static void gapRefused() {
        DUE.by("13: BAD; STATE; refusals change nothing");
        REFUSED.ofSome("gap(-1, 0)", x -> x.gap(-1, 0), -2);
        REFUSED.ofSome("gap(3, 0)", x -> x.gap(3, 0), -2);
        REFUSED.ofSome("gap(0, -1)", x -> x.gap(0, -1), -2);
        REFUSED.ofSome("gap(0, n)", x -> x.gap(0, x.count(0)), -2);
        REFUSED.ofSome("gap(0, 32)", x -> x.gap(0, 32), -2);
        REFUSED.ofSome("gap(0, 34)", x -> x.gap(0, 34), -2);
        REFUSED.ofSome("gap(1, 3)", x -> x.gap(1, 3), -3);
        REFUSED.ofFull("gap(12, 0)", x -> x.gap(12, 0), -2);
        REFUSED.ofFull("gap(11, 2)", x -> x.gap(11, 2), -3);
    }

    // ---- 14

    private static void dateYears() {
        DUE.by("14: a TELLING is of another YEAR: what it was. BAD");
        ChalkStreet x = Scenes.ring(4);
        DUE.is("none told", x.date(0, 0), -2);
        x.telling(500, 0);
        DUE.is("to the first", x.date(0, 0), 500);
        DUE.is("to the last", x.date(0, 999), 0);
        for (int year : new int[] {-1, 1000, MIN, MAX}) DUE.is("date(0, " + year + ")", x.date(0, year), -2);
        DUE.is("to what it is", x.date(0, 999), 999);
        DUE.is("as it is", x.date(0, 1), 999);
        for (int t : new int[] {-1, 1, 12, MIN, MAX}) DUE.is("date(" + t + ", 0)", x.date(t, 0), -2);
        for (int i = 1; i < 12; i++) x.telling(i, 0);
        DUE.is("the last of twelve", x.date(11, 3), 11);
        DUE.is("beyond the last of twelve", x.date(12, 3), -2);
    }

    private static void dateRefused() {
        DUE.by("14: BAD; refusals change nothing");
        REFUSED.ofSome("date(-1, 0)", x -> x.date(-1, 0), -2);
        REFUSED.ofSome("date(3, 0)", x -> x.date(3, 0), -2);
        REFUSED.ofSome("date(0, -1)", x -> x.date(0, -1), -2);
        REFUSED.ofSome("date(0, 1000)", x -> x.date(0, 1000), -2);
        REFUSED.ofFull("date(12, 0)", x -> x.date(12, 0), -2);
    }

    // ---- 15

    private static void takeGaps() {
        DUE.by("15: THE SET becomes that of a TELLING (GAPS are PLAIN, 0): how many GAPS");
        for (int n = 4; n <= 10; n++) {
            ChalkStreet x = Scenes.ring(n);
            for (int s = 0; s < n; s++) x.square(s, 5, 9);
            x.steps(16);
            x.telling(0, 0);
            for (int many = 0; many <= n; many++) {
                x.steps(1);
                DUE.is("how many GAPS", x.take(0), many);
                for (int s = 0; s < n; s++) {
                    DUE.is("KIND of " + s, x.squareTold(s, 0), s < many ? 0 : 5);
                    DUE.is("NUMBER of " + s, x.squareTold(s, 1), s < many ? 0 : 9);
                }
                DUE.is("STEPS", x.count(1), 16);
                if (many < n) x.gap(0, many);
            }
        }
    }

    private static void takeRefused() {
        DUE.by("15: BAD");
        DUE.is("none told", Scenes.ring(4).take(0), -2);
        REFUSED.ofSome("take(-1)", x -> x.take(-1), -2);
        REFUSED.ofSome("take(3)", x -> x.take(3), -2);
        REFUSED.ofSome("take(MIN)", x -> x.take(MIN), -2);
        REFUSED.ofSome("take(MAX)", x -> x.take(MAX), -2);
        REFUSED.ofFull("take(12)", x -> x.take(12), -2);
    }

    // ---- 16

    private static void changesNoneAndAll() {
        DUE.by("16: SQUARES of unlike KIND or NUMBER, and steps that are allowed in one alone");
        for (int n = 4; n <= 10; n++) {
            ChalkStreet x = Scenes.ring(n);
            x.steps(10);
            x.telling(0, 0);
            x.telling(0, 0);
            for (int s = 0; s < n; s++) x.square(s, s % 2, 1 - s % 2);
            x.steps(21);
            x.telling(0, 0);
            DUE.is("none", x.changes(0, 1), 0);
            DUE.is("all squares and all five steps", x.changes(0, 2), n + 5);
            DUE.is("the other way", x.changes(2, 1), n + 5);
            DUE.is("itself", x.changes(2, 2), 0);
        }
        ChalkStreet y = Scenes.ring(4);
        y.telling(0, 0);
        y.square(3, 5, 9);
        y.telling(0, 0);
        DUE.is("unlike KIND and NUMBER is one", y.changes(0, 1), 1);
        y.steps(31);
        y.telling(0, 0);
        DUE.is("four steps more", y.changes(1, 2), 4);
    }

    private static void changesGaps() {
        DUE.by("16: none of them a GAP in either");
        ChalkStreet x = Scenes.ring(10);
        x.telling(0, 0);
        for (int s = 0; s < 10; s++) x.square(s, 3, 1);
        x.steps(2);
        x.telling(0, 0);
        for (int s = 0; s < 10; s++) {
            DUE.is("with " + s + " GAPS", x.changes(0, 1), 12 - s);
            x.gap(s % 2, s);
        }
        DUE.is("with all GAPS", x.changes(0, 1), 2);
        x.gap(1, 0);
        DUE.is("a GAP in both", x.changes(0, 1), 2);
    }

    private static void changesRefused() {
        DUE.by("16: BAD");
        DUE.is("none told", Scenes.ring(4).changes(0, 0), -2);
        REFUSED.ofSome("changes(-1, 0)", x -> x.changes(-1, 0), -2);
        REFUSED.ofSome("changes(0, -1)", x -> x.changes(0, -1), -2);
        REFUSED.ofSome("changes(3, 0)", x -> x.changes(3, 0), -2);
        REFUSED.ofSome("changes(0, 3)", x -> x.changes(0, 3), -2);
        REFUSED.ofFull("changes(12, 11)", x -> x.changes(12, 11), -2);
        REFUSED.ofFull("changes(11, 12)", x -> x.changes(11, 12), -2);
        ChalkStreet full = Scenes.full();
        DUE.is("the last of twelve by a GAP", full.changes(11, 10), 0);
    }

    // ---- 17

    private static void childLesserYear() {
        DUE.by("17: the CHILD of that of a lesser YEAR; of none, if there is none such");
        ChalkStreet x = Scenes.ring(4);
        x.telling(500, 0);
        x.telling(500, 0);
        DUE.is("of a like YEAR", x.child(1), -1);
        x.date(0, 501);
        DUE.is("of a later YEAR", x.child(1), -1);
        DUE.is("by one", x.child(0), 1);
        x.date(0, 499);
        DUE.is("by one", x.child(1), 0);
        DUE.is("the first of all", x.child(0), -1);
        x.date(0, 0);
        x.date(1, 999);
        DUE.is("the YEARS 0 and 999", x.child(1), 0);
        DUE.is("the YEAR 0", x.child(0), -1);
    }

    private static void childLeastNumber() {
        DUE.by("17: with the fewest CHANGES, of like ones the least number");
        ChalkStreet x = Scenes.ring(4);
        for (int i = 0; i < 11; i++) x.telling(i % 3, 0);
        x.square(0, 1, 0);
        x.telling(9, 0);
        DUE.is("of eleven like ones", x.child(11), 0);
        x.date(0, 9);
        DUE.is("of ten like ones", x.child(11), 1);
        x.square(1, 1, 0);
        ChalkStreet y = Scenes.ring(4);
        y.telling(1, 0);
        y.square(0, 1, 0);
        y.telling(2, 0);
        y.square(1, 1, 0);
        y.telling(3, 0);
        DUE.is("fewer by one", y.child(2), 1);
        y.gap(2, 1);
        y.gap(2, 0);
        DUE.is("like ones", y.child(2), 0);
    }

    private static void childGaps() {
        DUE.by("17: CHANGES between two: none of them a GAP in either");
        ChalkStreet x = Scenes.ring(4);
        x.telling(1, 0);
        x.square(0, 3, 3);
        x.telling(1, 0);
        x.square(1, 3, 3);
        x.telling(2, 0);
        DUE.is("by one", x.child(2), 1);
        x.gap(0, 0);
        DUE.is("a GAP of the other one's", x.child(2), 0);
    }

    private static void childRefused() {
        DUE.by("17: BAD");
        DUE.is("none told", Scenes.ring(4).child(0), -2);
        REFUSED.ofSome("child(-1)", x -> x.child(-1), -2);
        REFUSED.ofSome("child(3)", x -> x.child(3), -2);
        REFUSED.ofSome("child(MIN)", x -> x.child(MIN), -2);
        REFUSED.ofSome("child(MAX)", x -> x.child(MAX), -2);
        REFUSED.ofFull("child(12)", x -> x.child(12), -2);
    }

    // ---- 18

    private static void treeOf(String what, ChalkStreet x, int changes, int moved, int ofNone) {
        DUE.is("CHANGES of " + what, x.tree(0), changes);
        DUE.is("MOVED of " + what, x.tree(1), moved);
        DUE.is("CHILDREN of none of " + what, x.tree(2), ofNone);
    }

    private static void treeNoneAndAll() {
        DUE.by("18: all CHANGES from CHILDREN to those they are of; how many are CHILDREN of none");
        ChalkStreet x = Scenes.ring(10);
        treeOf("none told", x, 0, 0, 0);
        x.telling(0, 0);
        treeOf("one", x, 0, 0, 1);
        for (int i = 1; i < 12; i++) x.telling(0, i % 10);
        treeOf("twelve of one YEAR", x, 0, 0, 12);
        // Each differs by one square more from those ahead of it, and all of the first by five steps, too.
        ChalkStreet y = Scenes.ring(10);
        y.steps(10);
        for (int i = 0; i < 11; i++) {
            y.telling(i, 0);
            y.steps(21);
            if (i < 10) y.square(i, 2, 2);
        }
        treeOf("one after another", y, 5 + 10, 0, 1);
        y.date(0, 10);
        treeOf("the first with none ahead is another one", y, 5 + 1 + 9, 0, 1);
    }

    private static void treeMoved() {
        DUE.by("18: MOVED: CHILDREN of another TOWN than theirs");
        ChalkStreet x = Scenes.ring(4);
        x.telling(0, 0);
        x.telling(0, 9);
        treeOf("two of none", x, 0, 0, 2);
        for (int i = 0; i < 10; i++) x.telling(1, i);
        treeOf("a CHILD of each TOWN", x, 0, 9, 2);
        x.date(0, 2);
        treeOf("the TOWN 9's", x, 0, 10, 1);
    }

    private static void treeRefused() {
        DUE.by("18: BAD");
        REFUSED.ofBoth("tree(-1)", x -> x.tree(-1), -2);
        REFUSED.ofBoth("tree(3)", x -> x.tree(3), -2);
        REFUSED.ofSome("tree(MIN)", x -> x.tree(MIN), -2);
        REFUSED.ofSome("tree(MAX)", x -> x.tree(MAX), -2);
    }

    // ---- 19

    private static void stoodKinds() {
        DUE.by("19: KINDS (bits) that MAY HAVE STOOD in a GAP");
        for (int kind = 0; kind < 6; kind++) {
            ChalkStreet x = Scenes.ring(4);
            x.square(3, kind, 0);
            x.telling(1, 0);
            x.square(3, (kind + 1) % 6, 0);
            x.telling(2, 0);
            x.gap(1, 3);
            DUE.is("that of which it is the CHILD", x.stood(1, 3), 1 << kind);
            x.date(0, 3);
            DUE.is("its CHILD", x.stood(1, 3), 1 << kind);
            x.date(0, 2);
            DUE.is("neither", x.stood(1, 3), 63);
        }
    }

    private static void stoodNobody() {
        DUE.by("19: its CHILDREN (in which that SQUARE is no GAP)");
        ChalkStreet x = Scenes.ring(4);
        x.telling(5, 0);
        x.gap(0, 0);
        x.gap(0, 3);
        DUE.is("one alone", x.stood(0, 0), 63);
        x.square(0, 4, 0);
        x.telling(6, 0);
        DUE.is("its CHILD", x.stood(0, 0), 16);
        DUE.is("its CHILD at another square", x.stood(0, 3), 1);
        x.gap(1, 0);
        DUE.is("it is a GAP in its CHILD", x.stood(0, 0), 63);
        DUE.is("and none at another square", x.stood(0, 3), 1);
        DUE.is("a GAP in both, of the CHILD", x.stood(1, 0), 63);
    }

    private static void stoodFewest() {
        DUE.by("19: for which the fewest of them have another KIND there");
        ChalkStreet x = Scenes.ring(4);
        x.telling(1, 0);
        x.telling(2, 0);
        x.gap(1, 2);
        int[] kinds = {1, 2, 3, 4, 5};
        for (int kind : kinds) {
            x.square(2, kind, 9);
            x.telling(3, 0);
        }
        DUE.is("each of all", x.stood(1, 2), 63);
        x.telling(3, 0);
        DUE.is("FAR twice", x.stood(1, 2), 32);
        x.square(2, 0, 1);
        x.telling(3, 0);
        DUE.is("PLAIN twice, by one's own and a CHILD's", x.stood(1, 2), 33);
        x.date(0, 2);
        DUE.is("without one's own", x.stood(1, 2), 32);
    }

    private static void stoodRefused() {
        DUE.by("19: BAD: TELLING, SQUARE; STATE: it is none");
        DUE.is("none told", Scenes.ring(4).stood(0, 0), -2);
        REFUSED.ofSome("stood(-1, 0)", x -> x.stood(-1, 0), -2);
        REFUSED.ofSome("stood(3, 0)", x -> x.stood(3, 0), -2);
        REFUSED.ofSome("stood(1, -1)", x -> x.stood(1, -1), -2);
        REFUSED.ofSome("stood(1, n)", x -> x.stood(1, x.count(0)), -2);
        REFUSED.ofSome("stood(1, 35)", x -> x.stood(1, 35), -2);
        REFUSED.ofSome("stood(1, 2)", x -> x.stood(1, 2), -3);
        REFUSED.ofSome("stood(1, 4)", x -> x.stood(1, 4), -3);
        REFUSED.ofFull("stood(12, 2)", x -> x.stood(12, 2), -2);
        REFUSED.ofFull("stood(10, 2)", x -> x.stood(10, 2), -3);
        DUE.is("it is one", Scenes.some().stood(1, 3) >= 0 ? 1 : 0, 1);
    }

    // ---- 20

    private static void take(ChalkStreet x, int steps, int... kinds) {
        for (int s = 0; s < x.count(0); s++) x.square(s, s < kinds.length ? kinds[s] : 0, 0);
        x.steps(steps);
    }

    /** Two TELLINGS of rings of so many squares. */
    private static ChalkStreet two(int n, int steps, int[] kinds, int otherSteps, int[] otherKinds) {
        ChalkStreet x = Scenes.ring(n);
        take(x, steps, kinds);
        x.telling(0, 0);
        take(x, otherSteps, otherKinds);
        x.telling(0, 0);
        return x;
    }

    private static void quarrelNever() {
        DUE.by("20: -1: they never do");
        ChalkStreet x = two(4, 31, new int[] {1, 2, 3, 0}, 31, new int[] {1, 2, 3, 0});
        DUE.is("alike", x.quarrel(0, 1), -1);
        DUE.is("itself", x.quarrel(1, 1), -1);
        ChalkStreet y = two(4, 10, new int[] {3, 3, 3, 3}, 21, new int[] {2, 2, 2, 2});
        DUE.is("no step in both", y.quarrel(0, 1), -1);
        ChalkStreet z = two(4, 3, new int[] {0, 3, 0, 2}, 1, new int[] {0, 3, 0, 0});
        DUE.is("over ahead of where they are unlike", z.quarrel(0, 1), -1);
        ChalkStreet w = two(4, 1, new int[] {0, 1}, 1, new int[] {0, 1});
        w.gap(1, 0);
        DUE.is("a GAP for a PLAIN", w.quarrel(0, 1), -1);
    }

    private static void quarrelFirstStep() {
        DUE.by("20: one is over and the other one isn't, or the winners or who is to move are not alike");
        // BACK by 0 does as AGAIN, FAR by a step above 0 as HOME.
        int[] does = {0, 1, 2, 3, 1, 3};
        for (int kind = 0; kind < 6; kind++) {
            for (int other = 0; other < 6; other++) {
                boolean alike = does[kind] == does[other];
                ChalkStreet x = two(4, 1, new int[] {0, kind}, 1, new int[] {0, other});
                DUE.is("KINDS " + kind + " and " + other, x.quarrel(0, 1), alike ? -1 : 1);
                DUE.is("KINDS " + other + " and " + kind, x.quarrel(1, 0), alike ? -1 : 1);
            }
        }
        ChalkStreet y = two(10, 16, new int[] {0, 0, 0, 0, 0, 1}, 31, new int[] {0, 1, 2, 3, 1, 0});
        DUE.is("by step 5 alone", y.quarrel(0, 1), 5);
    }

    /** All AGAIN but a PLAIN one; 0 is BACK by 1 in the second one, where the stone stays at 9 then. */
    private static ChalkStreet round(int plain) {
        ChalkStreet x = Scenes.ring(10);
        for (int s = 0; s < 10; s++) x.square(s, s == plain ? 0 : 1, 0);
        x.telling(0, 0);
        x.square(0, 4, 1);
        x.telling(0, 0);
        return x;
    }

    private static void quarrelEighteen() {
        DUE.by("20: -2: it is longer than 18");
        DUE.is("seventeen", round(7).quarrel(0, 1), EIGHTEEN / 10);
        DUE.is("eighteen", round(8).quarrel(0, 1), EIGHTEEN);
        DUE.is("eighteen, the other way", round(8).quarrel(1, 0), EIGHTEEN);
        DUE.is("nineteen", round(9).quarrel(0, 1), -2);
        DUE.is("nineteen, the other way", round(9).quarrel(1, 0), -2);
        ChalkStreet x = round(8);
        x.take(0);
        DUE.is("ahead of its end the second one is to move", x.play(EIGHTEEN / 10), 17);
        DUE.is("at its end the first one is", x.play(EIGHTEEN), 8);
        x.take(1);
        DUE.is("ahead of its end the second one is to move, too", x.play(EIGHTEEN / 10), 19);
        DUE.is("and at its end", x.play(EIGHTEEN), 19);
    }

    private static void quarrelOverAhead() {
        DUE.by("20: none of the games is over ahead of its end");
        ChalkStreet x = two(4, 3, new int[] {0, 0, 2, 3}, 3, new int[] {0, 0, 2, 2});
        DUE.is("2 is OUT in both: 3 by 1 and 2", x.quarrel(0, 1), 21);
        ChalkStreet y = two(4, 3, new int[] {0, 3, 0, 3}, 3, new int[] {0, 3, 0, 2});
        DUE.is("1 is HOME in both: 3 by 2 and 1", y.quarrel(0, 1), 12);
        ChalkStreet z = two(4, 3, new int[] {0, 3, 3, 3}, 3, new int[] {0, 3, 3, 2});
        DUE.is("1 and 2 are HOME in both", z.quarrel(0, 1), -1);
    }

    private static void quarrelLikeOnes() {
        DUE.by("20: of like ones the first step less, then the second one, and so on");
        ChalkStreet x = two(10, 31, new int[] {0, 0, 0, 0, 0, 0, 3}, 31, new int[] {0, 0, 0, 0, 0, 0, 2});
        DUE.is("6 by 1 and 5 ahead of 5 and 1", x.quarrel(0, 1), 51);
        ChalkStreet y = two(10, 31, new int[] {0, 3, 0, 0, 0, 0, 3}, 31, new int[] {0, 3, 0, 0, 0, 0, 2});
        DUE.is("6 by 2 and 4", y.quarrel(0, 1), 42);
        ChalkStreet z = two(10, 7, new int[] {0, 0, 0, 0, 0, 0, 0, 3}, 7, new int[] {0, 0, 0, 0, 0, 0, 0, 2});
        DUE.is("7 by 1, 3 and 3", z.quarrel(0, 1), 331);
        ChalkStreet w = two(10, 7, new int[] {0, 0, 0, 0, 2, 0, 0, 3}, 7, new int[] {0, 0, 0, 0, 2, 0, 0, 2});
        DUE.is("7 by 2, 3 and 2", w.quarrel(0, 1), 232);
        ChalkStreet v = two(10, 31, new int[] {0, 0, 0, 3}, 31, new int[] {0, 0, 0, 2});
        DUE.is("one step ahead of two", v.quarrel(0, 1), 3);
    }

    private static void quarrelGaps() {
        DUE.by("20: GAPS being PLAIN");
        ChalkStreet x = two(4, 1, new int[] {0, 3}, 1, new int[] {0, 2});
        DUE.is("HOME and OUT", x.quarrel(0, 1), 1);
        x.gap(0, 1);
        DUE.is("PLAIN and OUT", x.quarrel(0, 1), 1);
        x.gap(1, 1);
        DUE.is("PLAIN and PLAIN", x.quarrel(0, 1), -1);
    }

    private static void quarrelAgain() {
        DUE.by("20: the same, whatever was asked ahead");
        ChalkStreet x = round(7);
        x.square(7, 3, 0);
        x.telling(0, 0);
        for (int s = 0; s < 10; s++) x.square(s, s % 3, s);
        x.steps(21);
        x.telling(0, 0);
        x.steps(1);
        x.telling(0, 0);
        x.take(0);
        x.square(3, 2, 0);
        x.telling(0, 0);
        for (int i = 0; i < 3; i++) {
            DUE.is("seventeen", x.quarrel(0, 1), EIGHTEEN / 10);
            DUE.is("by the seventh", x.quarrel(1, 2), 1111111);
            DUE.is("by the third", x.quarrel(0, 5), 111);
            DUE.is("OUT for AGAIN by the second", x.quarrel(4, 0), 11);
            DUE.is("alike", x.quarrel(3, 4), -1);
            DUE.is("itself", x.quarrel(0, 0), -1);
        }
    }

    private static void quarrelRefused() {
        DUE.by("20: NO: no such TELLINGS");
        DUE.is("none told", Scenes.ring(4).quarrel(0, 0), ChalkStreet.NO);
        REFUSED.ofSome("quarrel(-1, 0)", x -> x.quarrel(-1, 0), ChalkStreet.NO);
        REFUSED.ofSome("quarrel(0, -1)", x -> x.quarrel(0, -1), ChalkStreet.NO);
        REFUSED.ofSome("quarrel(3, 0)", x -> x.quarrel(3, 0), ChalkStreet.NO);
        REFUSED.ofSome("quarrel(0, 3)", x -> x.quarrel(0, 3), ChalkStreet.NO);
        REFUSED.ofFull("quarrel(12, 0)", x -> x.quarrel(12, 0), ChalkStreet.NO);
        REFUSED.ofFull("quarrel(0, 12)", x -> x.quarrel(0, 12), ChalkStreet.NO);
    }
}
