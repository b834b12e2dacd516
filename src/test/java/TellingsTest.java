/** Promises 12 to 20: TELLINGS. */
public final class TellingsTest {
    private static final Due DUE = new Due("TellingsTest");

    public static void main(String[] args) {
        telling();
        gap();
        date();
        take();
        changes();
        child();
        tree();
        stood();
        stoodByMost();
        quarrel();
        quarrelOrder();
        quarrelFar();
        DUE.end();
    }

    private static void telling() {
        ChalkStreet x = new ChalkStreet(0);
        int[][] bad = {{-1, 0}, {1000, 0}, {0, -1}, {0, 10}};
        for (int[] b : bad) DUE.is("12 bad", x.telling(b[0], b[1]), -2);
        DUE.is("12 none told", x.count(2), 0);
        for (int i = 0; i < 12; i++) DUE.is("12 telling", x.telling(i == 0 ? 0 : 999, i % 10), i);
        DUE.is("12 full", x.telling(1, 1), -4);
        DUE.is("12 bad ahead of full", x.telling(1000, 1), -2);
        DUE.is("12 twelve", x.count(2), 12);
        ChalkStreet y = new ChalkStreet(0);
        y.square(1, 3, 4);
        y.steps(5);
        y.telling(1, 1);
        y.square(1, 2, 0);
        y.steps(2);
        y.take(0);
        DUE.is("12 keeps the KIND", y.squareTold(1, 0), 3);
        DUE.is("12 keeps the NUMBER", y.squareTold(1, 1), 4);
        DUE.is("12 keeps the STEPS", y.count(1), 5);
    }

    private static void gap() {
        ChalkStreet x = new ChalkStreet(0);
        DUE.is("13 no telling", x.gap(0, 0), -2);
        x.telling(1, 1);
        x.telling(2, 1);
        int[][] bad = {{-1, 0}, {2, 0}, {0, -1}, {0, 4}, {12, 0}};
        for (int[] b : bad) DUE.is("13 bad", x.gap(b[0], b[1]), -2);
        DUE.is("13 one", x.gap(0, 0), 1);
        DUE.is("13 two", x.gap(0, 3), 2);
        DUE.is("13 is one", x.gap(0, 3), -3);
        DUE.is("13 another telling", x.gap(1, 3), 1);
        DUE.is("13 unchanged", x.take(0), 2);
    }

    private static void date() {
        ChalkStreet x = new ChalkStreet(0);
        DUE.is("14 no telling", x.date(0, 0), -2);
        x.telling(7, 1);
        DUE.is("14 date", x.date(0, 999), 7);
        DUE.is("14 date", x.date(0, 0), 999);
        int[][] bad = {{-1, 0}, {1, 0}, {0, -1}, {0, 1000}};
        for (int[] b : bad) DUE.is("14 bad", x.date(b[0], b[1]), -2);
        DUE.is("14 unchanged", x.date(0, 5), 0);
    }

    private static void take() {
        ChalkStreet x = new ChalkStreet(0);
        DUE.is("15 no telling", x.take(0), -2);
        x.square(0, 3, 3);
        x.square(1, 4, 2);
        x.steps(9);
        x.telling(1, 1);
        x.gap(0, 0);
        x.square(0, 2, 2);
        x.square(3, 5, 5);
        x.steps(1);
        DUE.is("15 bad", x.take(-1), -2);
        DUE.is("15 bad", x.take(1), -2);
        DUE.is("15 unchanged", x.squareTold(0, 0), 2);
        DUE.is("15 take", x.take(0), 1);
        int[][] want = {{0, 0}, {4, 2}, {0, 0}, {0, 0}};
        for (int s = 0; s < 4; s++) {
            DUE.is("15 KIND of " + s, x.squareTold(s, 0), want[s][0]);
            DUE.is("15 NUMBER of " + s, x.squareTold(s, 1), want[s][1]);
        }
        DUE.is("15 STEPS", x.count(1), 9);
    }

    private static void changes() {
        ChalkStreet x = new ChalkStreet(0);
        x.telling(1, 1);
        x.square(0, 3, 0);
        x.square(1, 0, 7);
        x.square(2, 2, 2);
        x.steps(28);
        x.telling(1, 1);
        DUE.is("16 three squares, four steps", x.changes(0, 1), 7);
        DUE.is("16 the other way", x.changes(1, 0), 7);
        DUE.is("16 itself", x.changes(1, 1), 0);
        x.gap(1, 2);
        DUE.is("16 a gap in one", x.changes(0, 1), 6);
        x.gap(0, 1);
        DUE.is("16 a gap in the other", x.changes(1, 0), 5);
        int[][] bad = {{-1, 0}, {0, -1}, {2, 0}, {0, 2}};
        for (int[] b : bad) DUE.is("16 bad", x.changes(b[0], b[1]), -2);
    }

    private static void child() {
        ChalkStreet x = new ChalkStreet(0);
        DUE.is("17 no telling", x.child(0), -2);
        x.telling(10, 0);
        x.telling(5, 0);
        x.square(0, 1, 0);
        x.telling(10, 0);
        x.telling(20, 0);
        x.square(1, 1, 0);
        x.telling(20, 0);
        DUE.is("17 of the lesser year", x.child(0), 1);
        DUE.is("17 of none", x.child(1), -1);
        DUE.is("17 not of a like year", x.child(2), 1);
        DUE.is("17 the fewest changes", x.child(3), 2);
        DUE.is("17 the fewest changes, not a like year", x.child(4), 2);
        x.date(2, 30);
        DUE.is("17 of like ones the least number", x.child(3), 0);
        x.date(0, 20);
        DUE.is("17 what is left", x.child(3), 1);
        DUE.is("17 a later number", x.child(2), 3);
        DUE.is("17 bad", x.child(-1), -2);
        DUE.is("17 bad", x.child(5), -2);
    }

    private static void tree() {
        ChalkStreet x = new ChalkStreet(0);
        for (int what = 0; what < 3; what++) DUE.is("18 none", x.tree(what), 0);
        x.telling(1, 1);
        x.square(0, 1, 0);
        x.telling(2, 2);
        x.square(1, 1, 0);
        x.square(2, 1, 0);
        x.telling(3, 2);
        x.telling(1, 3);
        // 1 is the child of 0 by one change, 2 that of 3 by none.
        DUE.is("18 changes", x.tree(0), 1 + 0);
        DUE.is("18 moved", x.tree(1), 2);
        DUE.is("18 of none", x.tree(2), 2);
        x.date(3, 2);
        // Now 3 is the child of 0 by three changes.
        DUE.is("18 changes", x.tree(0), 1 + 0 + 3);
        DUE.is("18 moved", x.tree(1), 3);
        DUE.is("18 of none", x.tree(2), 1);
        DUE.is("18 bad", x.tree(-1), -2);
        DUE.is("18 bad", x.tree(3), -2);
    }

    private static void stood() {
        ChalkStreet x = new ChalkStreet(0);
        DUE.is("19 no telling", x.stood(0, 0), -2);
        x.square(2, 4, 1);
        x.telling(5, 0);
        DUE.is("19 no gap", x.stood(0, 2), -3);
        x.gap(0, 2);
        DUE.is("19 nobody near", x.stood(0, 2), 63);
        DUE.is("19 no gap", x.stood(0, 1), -3);
        int[][] bad = {{-1, 0}, {1, 0}, {0, -1}, {0, 4}};
        for (int[] b : bad) DUE.is("19 bad", x.stood(b[0], b[1]), -2);
        x.telling(6, 0);
        DUE.is("19 a child's", x.stood(0, 2), 16);
        x.gap(1, 2);
        DUE.is("19 a child with a gap", x.stood(0, 2), 63);
        DUE.is("19 one whose forebear has a gap", x.stood(1, 2), 63);
        DUE.is("19 no gap in the child", x.stood(1, 3), -3);
    }

    private static void stoodByMost() {
        ChalkStreet x = new ChalkStreet(0);
        x.square(0, 5, 0);
        x.telling(1, 0);
        x.telling(2, 0);
        x.gap(1, 0);
        int[] kinds = {3, 2, 3};
        for (int kind : kinds) {
            x.square(0, kind, 0);
            x.telling(9, 0);
        }
        // 2, 3 and 4 are children of 1, from which the gap keeps them by no change.
        DUE.is("19 near", x.child(2), 1);
        DUE.is("19 the most", x.stood(1, 0), 8);
        x.date(4, 1);
        DUE.is("19 as many of each", x.stood(1, 0), 4 + 8 + 32);
        x.square(0, 2, 5);
        x.telling(9, 0);
        DUE.is("19 KINDS alone count", x.stood(1, 0), 4);
    }

    private static ChalkStreet two(int n, int steps, int[][] first, int steps2, int[][] second) {
        ChalkStreet x = new ChalkStreet(n - 4);
        x.telling(0, 0);
        x.take(0);
        x.steps(steps);
        for (int[] s : first) x.square(s[0], s[1], s[2]);
        x.telling(1, 0);
        x.take(0);
        x.steps(steps2);
        for (int[] s : second) x.square(s[0], s[1], s[2]);
        x.telling(2, 0);
        return x;
    }

    private static void quarrel() {
        ChalkStreet x = two(4, 3, new int[][] {{3, 3, 0}}, 3, new int[][] {{3, 2, 0}});
        DUE.is("20 another winner", x.quarrel(1, 2), 21);
        DUE.is("20 the other way", x.quarrel(2, 1), 21);
        DUE.is("20 itself", x.quarrel(1, 1), -1);
        DUE.is("20 one is over", x.quarrel(1, 0), 111);
        x.gap(1, 3);
        DUE.is("20 a gap is PLAIN", x.quarrel(1, 0), -1);
        x.gap(2, 3);
        DUE.is("20 a gap is PLAIN", x.quarrel(1, 2), -1);
        int[][] no = {{-1, 0}, {0, -1}, {3, 0}, {0, 3}};
        for (int[] n : no) DUE.is("20 NO", x.quarrel(n[0], n[1]), ChalkStreet.NO);
        ChalkStreet y = two(4, 1, new int[][] {{1, 1, 0}}, 1, new int[][] {});
        DUE.is("20 who is to move", y.quarrel(1, 2), 1);
        ChalkStreet z = two(4, 1, new int[][] {{1, 3, 0}}, 2, new int[][] {});
        DUE.is("20 no step in both", z.quarrel(1, 2), -1);
        ChalkStreet w = two(4, 1, new int[][] {{1, 4, 0}}, 1, new int[][] {{1, 1, 0}});
        DUE.is("20 BACK as AGAIN", w.quarrel(1, 2), -1);
        ChalkStreet v = two(4, 1, new int[][] {{1, 4, 2}}, 1, new int[][] {{1, 4, 3}});
        DUE.is("20 where the stones lie shows later", v.quarrel(1, 2), 111);
    }

    private static void quarrelOrder() {
        // By 13 as by 22 the stones come to 4, where the games are not alike.
        ChalkStreet x = two(9, 7, new int[][] {{4, 3, 0}}, 7, new int[][] {{4, 2, 0}});
        DUE.is("20 the first step less", x.quarrel(1, 2), 31);
        ChalkStreet y = two(9, 7, new int[][] {{4, 3, 0}, {1, 3, 0}}, 7, new int[][] {{4, 2, 0}, {1, 3, 0}});
        DUE.is("20 not where both are over", y.quarrel(1, 2), 22);
        ChalkStreet z = two(4, 3, new int[][] {{2, 5, 1}}, 3, new int[][] {{2, 5, 2}});
        DUE.is("20 FAR by its NUMBER", z.quarrel(1, 2), 2);
        // To 7 by 2 and 5, or by 5 and 2.
        ChalkStreet w = two(10, 18, new int[][] {{7, 2, 0}}, 18, new int[][] {{7, 3, 0}});
        DUE.is("20 each step of the row", w.quarrel(1, 2), 52);
    }

    /** Ten squares and step 1: all are AGAIN but one; 0 is AGAIN in one telling and BACK to 9 in the other. */
    private static ChalkStreet round(int plain) {
        int[][] first = new int[10][];
        for (int s = 0; s < 10; s++) first[s] = new int[] {s, s == plain ? 0 : 1, 0};
        int[][] second = first.clone();
        second[0] = new int[] {0, 4, 1};
        return two(10, 1, first, 1, second);
    }

    private static void quarrelFar() {
        ChalkStreet x = two(10, 1, new int[][] {{9, 3, 0}}, 1, new int[][] {{9, 2, 0}});
        DUE.is("20 nine", x.quarrel(1, 2), 111111111L);
        // By ten moves one stone lies at 0 and the other one stays at 9 from then on; the PLAIN one comes in so many.
        DUE.is("20 eighteen", round(8).quarrel(1, 2), 111111111111111111L);
        DUE.is("20 nineteen", round(9).quarrel(1, 2), -2);
        DUE.is("20 seventeen", round(7).quarrel(2, 1), 11111111111111111L);
    }
}
