/** Promises 1 to 11: THE SET and what is won. */
public final class GameTest {
    private static final Due DUE = new Due("GameTest");

    public static void main(String[] args) {
        newObject();
        square();
        steps();
        squareTold();
        outAndHome();
        again();
        backAndFar();
        manySteps();
        stepFive();
        asTheRulesAre();
        endless();
        mend();
        mendTwo();
        plays();
        play();
        DUE.end();
    }

    private static void newObject() {
        int[][] sizes = {{0, 4}, {1, 5}, {6, 10}, {7, 4}, {-1, 10}, {-7, 4}, {-8, 10},
            {Integer.MAX_VALUE, 5}, {Integer.MIN_VALUE, 9}};
        for (int[] size : sizes) {
            ChalkStreet x = new ChalkStreet(size[0]);
            DUE.is("1 count(0) of " + size[0], x.count(0), size[1]);
            for (int s = 0; s < size[1]; s++) {
                DUE.is("1 KIND of " + s, x.squareTold(s, 0), 0);
                DUE.is("1 NUMBER of " + s, x.squareTold(s, 1), 0);
            }
            DUE.is("1 no square more", x.squareTold(size[1], 0), -2);
        }
        ChalkStreet x = new ChalkStreet(0);
        int[] counts = {4, 1, 0, 1, 0, 0, 0, 0};
        for (int i = 0; i < 8; i++) DUE.is("1 count(" + i + ")", x.count(i), counts[i]);
        for (int i = 0; i < 8; i++) DUE.is("1 has(" + i + ")", x.has(i), -1);
        for (int i = 0; i < 4; i++) DUE.is("1 marbles(" + i + ")", x.marbles(i), 20);
        for (int i = 0; i < 4; i++) DUE.is("1 cell(" + i + ", 0, 1)", x.cell(i, 0, 1), -11);
    }

    private static void square() {
        ChalkStreet x = new ChalkStreet(0);
        DUE.is("2 square(0, 5, 9)", x.square(0, 5, 9), 0);
        DUE.is("2 square(0, 4, 0)", x.square(0, 4, 0), 5);
        DUE.is("2 square(3, 1, 2)", x.square(3, 1, 2), 0);
        int[][] bad = {{-1, 0, 0}, {4, 0, 0}, {0, -1, 0}, {0, 6, 0}, {0, 0, -1}, {0, 0, 10},
            {Integer.MIN_VALUE, 0, 0}, {0, Integer.MAX_VALUE, 0}};
        for (int[] b : bad) DUE.is("2 bad square", x.square(b[0], b[1], b[2]), -2);
        DUE.is("2 unchanged", x.squareTold(0, 0), 4);
        DUE.is("2 unchanged", x.squareTold(0, 1), 0);
        DUE.is("2 told", x.squareTold(3, 1), 2);
        DUE.is("2 square(9, 3, 1) of ten", new ChalkStreet(6).square(9, 3, 1), 0);
    }

    private static void steps() {
        ChalkStreet x = new ChalkStreet(0);
        DUE.is("3 steps(31)", x.steps(31), 1);
        DUE.is("3 steps(16)", x.steps(16), 31);
        for (int bad : new int[] {0, 32, -1, Integer.MIN_VALUE}) DUE.is("3 steps bad", x.steps(bad), -2);
        DUE.is("3 unchanged", x.count(1), 16);
        DUE.is("3 step 5 goes", x.play(5), 11);
        DUE.is("3 step 1 does not", x.play(1), -100);
        DUE.is("3 the least", x.steps(1), 16);
        DUE.is("3 the least", x.count(1), 1);
    }

    private static void squareTold() {
        ChalkStreet x = new ChalkStreet(2);
        x.square(5, 2, 7);
        DUE.is("4 KIND", x.squareTold(5, 0), 2);
        DUE.is("4 NUMBER", x.squareTold(5, 1), 7);
        int[][] bad = {{-1, 0}, {6, 0}, {0, -1}, {0, 2}, {9, 9}};
        for (int[] b : bad) DUE.is("4 bad", x.squareTold(b[0], b[1]), -2);
    }

    private static void worths(String what, ChalkStreet x, int... want) {
        for (int s = 0; s < want.length; s++) DUE.is("5 " + what + " worth(" + s + ")", x.worth(s), want[s]);
        DUE.is("5 " + what + " worth(-1)", x.worth(-1), -2);
        DUE.is("5 " + what + " worth(n)", x.worth(want.length), -2);
    }

    private static void bests(String what, ChalkStreet x, int... want) {
        for (int s = 0; s < want.length; s++) DUE.is("6 " + what + " best(" + s + ")", x.best(s), want[s]);
        DUE.is("6 " + what + " best(-1)", x.best(-1), -2);
        DUE.is("6 " + what + " best(n)", x.best(want.length), -2);
    }

    private static void many(String what, ChalkStreet x, int won, int lost, int endless) {
        DUE.is("7 " + what + " many(0)", x.many(0), won);
        DUE.is("7 " + what + " many(1)", x.many(1), lost);
        DUE.is("7 " + what + " many(2)", x.many(2), endless);
        DUE.is("7 " + what + " many(-1)", x.many(-1), -2);
        DUE.is("7 " + what + " many(3)", x.many(3), -2);
    }

    private static void outAndHome() {
        ChalkStreet x = new ChalkStreet(0);
        x.square(2, 2, 0);
        worths("OUT", x, 2, -101, 4, -103);
        bests("OUT", x, 1, 1, 1, 1);
        many("OUT", x, 2, 2, 0);
        x.square(2, 3, 0);
        worths("HOME", x, -102, 1, -104, 3);
        many("HOME", x, 2, 2, 0);
        DUE.is("8 ring of none", x.ring(0), -1);
    }

    private static void again() {
        ChalkStreet x = new ChalkStreet(0);
        x.square(1, 1, 0);
        x.square(2, 3, 0);
        worths("AGAIN, HOME", x, 2, 1, 4, -103);
        x.square(2, 2, 0);
        worths("AGAIN, OUT", x, -102, -101, -104, 3);
        x.square(2, 1, 0);
        x.square(0, 1, 0);
        x.square(3, 1, 0);
        worths("all AGAIN", x, 0, 0, 0, 0);
        DUE.is("8 ring of all", x.ring(2), 15);
    }

    private static void backAndFar() {
        ChalkStreet x = new ChalkStreet(0);
        x.square(1, 4, 1);
        x.square(0, 2, 0);
        DUE.is("11 BACK lies on OUT and lives", x.play(1), 0);
        worths("BACK", x, 0, -103, 2, -101);
        DUE.is("8 ring on one square", x.ring(0), 1);
        DUE.is("8 no ring", x.ring(1), -1);
        x.square(1, 4, 9);
        DUE.is("11 BACK by 9", x.play(1), 0);
        x.square(1, 4, 0);
        DUE.is("11 BACK by 0", x.play(1), 1);
        ChalkStreet y = new ChalkStreet(0);
        y.steps(3);
        y.square(2, 5, 1);
        DUE.is("11 FAR above", y.play(2), 100);
        DUE.is("11 FAR not above", y.play(11), 2);
        DUE.is("11 FAR for the second", y.play(2211), 101);
        worths("FAR", y, 1, 0, 0, 0);
        bests("FAR", y, 2, 1, 1, 2);
        y.square(2, 5, 0);
        DUE.is("11 FAR by 1 above 0", y.play(11), 101);
        y.square(2, 5, 9);
        DUE.is("11 FAR never", y.play(2), 12);
    }

    private static void manySteps() {
        ChalkStreet x = new ChalkStreet(1);
        x.steps(3);
        x.square(3, 3, 0);
        worths("two steps", x, -102, 1, 1, 3, 3);
        bests("two steps", x, 1, 2, 1, 2, 1);
        many("two steps", x, 4, 1, 0);
        x.square(1, 2, 0);
        DUE.is("5 LOST as late as can be", x.worth(0), -102);
        DUE.is("6 LOST as late as can be", x.best(0), 2);
    }

    private static void stepFive() {
        ChalkStreet x = new ChalkStreet(6);
        x.steps(17);
        x.square(5, 3, 0);
        DUE.is("6 step 5", x.best(0), 5);
        DUE.is("5 step 5", x.worth(0), 1);
        DUE.is("10 step 5", x.plays(1, 0), 1);
        DUE.is("11 step 5", x.play(5), 100);
    }

    /** Each call reads the rules as they are then, whatever was asked ahead of it. */
    private static void asTheRulesAre() {
        ChalkStreet x = new ChalkStreet(0);
        DUE.is("7 all ENDLESS", x.many(2), 4);
        x.steps(2);
        x.square(2, 3, 0);
        DUE.is("6 step 2", x.best(0), 2);
        x.square(2, 0, 0);
        DUE.is("8 the ring of 0 and 2", x.ring(0), 5);
        x.square(2, 2, 0);
        DUE.is("7 OUT for 0 alone", x.many(1), 1);
        DUE.is("7 2 wins by it", x.many(0), 1);
        DUE.is("9 the ring of 1 and 3", x.mend(0), 12);
        x.steps(1);
        DUE.is("9 nothing to mend", x.mend(-1), 0);
        x.steps(2);
        DUE.is("9 the ring of 1 and 3 again", x.mend(0), 12);
        x.square(1, 4, 2);
        x.square(1, 4, 0);
        DUE.is("9 by another NUMBER", x.mend(0), 12);
    }

    private static void endless() {
        ChalkStreet x = new ChalkStreet(0);
        x.steps(3);
        x.square(1, 2, 0);
        worths("ENDLESS", x, 0, 0, 0, 0);
        bests("ENDLESS", x, 2, 1, 1, 1);
        many("ENDLESS", x, 0, 0, 4);
        DUE.is("8 ring(0)", x.ring(0), 13);
        DUE.is("8 ring(1)", x.ring(1), 13);
        DUE.is("8 ring(-1)", x.ring(-1), -2);
        DUE.is("8 ring(4)", x.ring(4), -2);
    }

    private static void mend() {
        ChalkStreet x = new ChalkStreet(0);
        DUE.is("9 one", x.mend(-1), 1);
        DUE.is("9 the first", x.mend(0), 2);
        DUE.is("9 none such", x.mend(1), -1);
        DUE.is("9 none such", x.mend(-2), -1);
        DUE.is("9 none such", x.mend(Integer.MAX_VALUE), -1);
        DUE.is("9 changes nothing", x.squareTold(0, 0), 0);
        x.square(0, 1, 0);
        DUE.is("9 AGAIN to OUT", x.mend(0), 2);
        // 0 BACK to itself is the one that never ends: PLAIN would not end, but OUT or HOME does.
        x.square(0, 4, 1);
        DUE.is("9 BACK to OUT", x.mend(0), 2);
        x.square(0, 2, 0);
        DUE.is("9 no change", x.mend(-1), 0);
        DUE.is("9 no change", x.mend(0), -1);
        ChalkStreet y = new ChalkStreet(0);
        y.square(1, 4, 1);
        y.square(3, 3, 0);
        // From 0 one comes back to 0 for ever: to make 0 another KIND does not help, so 1 is the first.
        DUE.is("9 square 1 to PLAIN", y.mend(-1), 1);
        DUE.is("9 square 1 to PLAIN", y.mend(0), 10);
    }

    private static void mendTwo() {
        // Two lone rounds of one square each, 0 by BACK at 1 and 2 by BACK at 3: each must be broken by itself.
        ChalkStreet x = new ChalkStreet(0);
        x.square(1, 4, 1);
        x.square(3, 4, 1);
        DUE.is("9 two", x.mend(-1), 2);
        // 1 to PLAIN leads 0 -> 1 -> 2, then 3 must end it: OUT.
        DUE.is("9 the first of two", x.mend(0), 10);
        DUE.is("9 the second of two", x.mend(1), 32);
        DUE.is("9 no third", x.mend(2), -1);
        x.steps(16);
        DUE.is("9 step 5 is as step 1", x.mend(1), 32);
        // Five rounds of one square each on ten: not by two.
        ChalkStreet y = new ChalkStreet(6);
        for (int s = 1; s < 10; s += 2) y.square(s, 4, 1);
        DUE.is("9 not by two", y.mend(-1), -1);
        DUE.is("9 not by two", y.mend(0), -1);
        DUE.is("9 not by two", y.mend(1), -1);
    }

    private static void plays() {
        ChalkStreet x = new ChalkStreet(0);
        for (int m = 0; m <= 12; m++) {
            DUE.is("10 plays(" + m + ", 2)", x.plays(m, 2), 1);
            DUE.is("10 plays(" + m + ", 0)", x.plays(m, 0), 0);
        }
        x.steps(31);
        DUE.is("10 all rows", x.plays(12, 2), 244140625L);
        x.steps(3);
        x.square(1, 3, 0);
        long[][] want = {{0, 0, 1}, {1, 0, 1}, {0, 0, 2}, {2, 0, 2}};
        for (int m = 0; m < 4; m++) {
            for (int what = 0; what < 3; what++) DUE.is("10 plays(" + m + ", " + what + ")", x.plays(m, what), want[m][what]);
        }
        x.square(1, 2, 0);
        DUE.is("10 OUT wins for the other one", x.plays(1, 1), 1);
        DUE.is("10 OUT wins for the other one", x.plays(1, 0), 0);
        DUE.is("10 none is won behind the end", x.plays(2, 1), 0);
        x.square(1, 1, 0);
        x.square(2, 3, 0);
        DUE.is("10 AGAIN, then HOME", x.plays(2, 0), 1);
        // 0 1 3 in three moves, then 0 (the first to move) or 1 (the second one still).
        long[] fourth = {1, 1, 2};
        for (int what = 0; what < 3; what++) DUE.is("10 the fourth move", x.plays(4, what), fourth[what]);
        int[][] no = {{-1, 0}, {13, 0}, {0, -1}, {0, 3}, {Integer.MAX_VALUE, 0}};
        for (int[] n : no) DUE.is("10 NO", x.plays(n[0], n[1]), ChalkStreet.NO);
    }

    private static void play() {
        ChalkStreet x = new ChalkStreet(6);
        x.steps(7);
        x.square(4, 3, 0);
        x.square(5, 2, 0);
        DUE.is("11 no step", x.play(0), 0);
        DUE.is("11 second", x.play(3), 13);
        DUE.is("11 first", x.play(33), 6);
        DUE.is("11 a 0 ends it", x.play(303), 13);
        DUE.is("11 a 0 ends it at once", x.play(4440), 0);
        DUE.is("11 second HOME", x.play(13), 101);
        DUE.is("11 second OUT", x.play(23), 100);
        DUE.is("11 first HOME", x.play(211), 100);
        DUE.is("11 first OUT", x.play(311), 101);
        DUE.is("11 over", x.play(1211), -103);
        DUE.is("11 not allowed", x.play(43), -101);
        DUE.is("11 no such step", x.play(9), -100);
        DUE.is("11 below 0", x.play(-1), -2);
        DUE.is("11 below 0", x.play(Long.MIN_VALUE), -2);
        DUE.is("11 19 digits", x.play(1000000000000000000L), -2);
        DUE.is("11 19 digits", x.play(Long.MAX_VALUE), -2);
        x.square(4, 0, 0);
        x.square(5, 0, 0);
        DUE.is("11 18 digits", x.play(111111111111111111L), 8);
        DUE.is("11 the 18th not allowed", x.play(511111111111111111L), -117);
    }
}
