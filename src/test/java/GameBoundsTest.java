/** Promises 1 to 11: each sentence that names a bound, just inside it and just outside. */
public final class GameBoundsTest {
    private static final Due DUE = new Due("GameBoundsTest");
    private static final Refused REFUSED = new Refused(DUE);
    private static final int MIN = Integer.MIN_VALUE, MAX = Integer.MAX_VALUE;

    public static void main(String[] args) {
        numberOfSquares();
        theSetAtFirst();
        nothingElseAtFirst();
        theLastCall();
        squareOfTheRing();
        squareKind();
        squareNumber();
        squareRefused();
        stepsBits();
        stepsRefused();
        squareToldWhat();
        moveGoesRound();
        backGoesRound();
        noKindBehind();
        farAboveItsNumber();
        toldWonOrLostInOne();
        longestGames();
        fewestAndMost();
        worthRefused();
        bestLeastStep();
        bestRefused();
        manyNoneAndAll();
        manyRefused();
        ringOfOneAndOfAll();
        ringOfNone();
        ringRefused();
        mendByNone();
        mendByOne();
        mendByTwo();
        mendNotByTwo();
        mendToAnotherKind();
        mendAsTheRulesAre();
        mendOfLikeOnes();
        mendEndmost();
        mendNoneSuch();
        playsOfNoMoves();
        playsOfTwelve();
        playsOverAhead();
        playsRefused();
        playEnds();
        playZeroEnds();
        playDigits();
        playNotAllowed();
        playOver();
        playRefused();
        DUE.covers(1, 11);
        DUE.end();
    }

    private static ChalkStreet allOf(int n, int kind) {
        ChalkStreet x = Scenes.ring(n);
        for (int s = 0; s < n; s++) x.square(s, kind, 0);
        return x;
    }

    // ---- 1

    private static void numberOfSquares() {
        DUE.by("1: n being 4 and the constructor's number modulo 7 (from 0)");
        int[][] sizes = {{-15, 10}, {-14, 4}, {-13, 5}, {-8, 10}, {-7, 4}, {-6, 5}, {-2, 9}, {-1, 10}, {0, 4}, {1, 5},
            {2, 6}, {3, 7}, {4, 8}, {5, 9}, {6, 10}, {7, 4}, {8, 5}, {13, 10}, {14, 4}, {700, 4}, {-700, 4},
            {MAX, 5}, {MAX - 1, 4}, {MAX - 2, 10}, {MIN, 9}, {MIN + 1, 10}, {MIN + 2, 4}};
        for (int[] size : sizes) {
            ChalkStreet x = new ChalkStreet(size[0]);
            DUE.is("count(0) of " + size[0], x.count(0), size[1]);
            DUE.is("the first of " + size[0], x.squareTold(0, 0), 0);
            DUE.is("ahead of the first of " + size[0], x.squareTold(-1, 0), -2);
            DUE.is("the last of " + size[0], x.squareTold(size[1] - 1, 0), 0);
            DUE.is("beyond the last of " + size[0], x.squareTold(size[1], 0), -2);
        }
    }

    private static void theSetAtFirst() {
        DUE.by("1: THE SET at first: all PLAIN (NUMBERS 0), STEP 1 alone");
        for (int n = 4; n <= 10; n++) {
            ChalkStreet x = Scenes.ring(n);
            for (int s = 0; s < n; s++) {
                DUE.is("KIND of " + s, x.squareTold(s, 0), 0);
                DUE.is("NUMBER of " + s, x.squareTold(s, 1), 0);
            }
            DUE.is("STEPS", x.count(1), 1);
            DUE.is("step 1", x.play(1), 11);
            for (int step = 2; step < 10; step++) DUE.is("step " + step, x.play(step), -100);
        }
    }

    private static void nothingElseAtFirst() {
        DUE.by("1: YEAR 0; no TELLINGS; STREETS have none; TEXT 0 is THE RULE; missing SHEETS; 20 MARBLES each");
        ChalkStreet x = Scenes.ring(7);
        int[] counts = {7, 1, 0, 1, 0, 0, 0, 0};
        for (int what = 0; what < 8; what++) DUE.is("count(" + what + ")", x.count(what), counts[what]);
        for (int s = 0; s < 8; s++) DUE.is("has(" + s + ")", x.has(s), -1);
        for (int p = 0; p < 4; p++) DUE.is("marbles(" + p + ")", x.marbles(p), 20);
        for (int s = 0; s < 4; s++) DUE.is("cell(" + s + ", 0, 0)", x.cell(s, 0, 0), -11);
        for (int what = 0; what < 3; what++) DUE.is("tree(" + what + ")", x.tree(what), 0);
        DUE.is("child(0)", x.child(0), -2);
        DUE.is("text() of an empty TAPE", x.text(), -100);
    }

    private static void theLastCall() {
        DUE.by("1: an object is used for at most 512 calls after it has been made");
        ChalkStreet x = Scenes.ring(4);
        for (int i = 1; i < 512; i++) x.square(i % 4, i % 6, i % 10);
        DUE.is("the 512th call", x.squareTold(3, 1), 511 % 10);
        ChalkStreet y = Scenes.ring(10);
        for (int i = 1; i < 512; i++) y.steps(i % 31 + 1);
        DUE.is("the 512th call", y.play(6), -100);
    }

    // ---- 2

    private static void squareOfTheRing() {
        DUE.by("2: SQUARES 0 .. n - 1");
        for (int n = 4; n <= 10; n++) {
            ChalkStreet x = Scenes.ring(n);
            DUE.is("the first of " + n, x.square(0, 1, 5), 0);
            DUE.is("the first of " + n + " again", x.square(0, 2, 6), 1);
            DUE.is("the last of " + n, x.square(n - 1, 3, 7), 0);
            DUE.is("the last of " + n + " again", x.square(n - 1, 4, 8), 3);
            for (int s : new int[] {-1, n, n + 1, MIN, MAX}) DUE.is("square(" + s + ") of " + n, x.square(s, 5, 9), -2);
            DUE.is("the first as it was", 10 * x.squareTold(0, 0) + x.squareTold(0, 1), 26);
            DUE.is("the last as it was", 10 * x.squareTold(n - 1, 0) + x.squareTold(n - 1, 1), 48);
        }
    }

    private static void squareKind() {
        DUE.by("2: KINDS 0 .. 5");
        ChalkStreet x = Scenes.ring(4);
        for (int kind = 0; kind < 6; kind++) {
            DUE.is("square(1, " + kind + ", 0)", x.square(1, kind, 0), kind == 0 ? 0 : kind - 1);
            DUE.is("KIND " + kind, x.squareTold(1, 0), kind);
        }
        for (int kind : new int[] {-1, 6, MIN, MAX}) DUE.is("square(1, " + kind + ", 0)", x.square(1, kind, 0), -2);
        DUE.is("KIND as it was", x.squareTold(1, 0), 5);
    }

    private static void squareNumber() {
        DUE.by("2: a NUMBER (0 .. 9)");
        ChalkStreet x = Scenes.ring(4);
        for (int number = 0; number < 10; number++) {
            DUE.is("square(3, 5, " + number + ")", x.square(3, 5, number), number == 0 ? 0 : 5);
            DUE.is("NUMBER " + number, x.squareTold(3, 1), number);
        }
        for (int number : new int[] {-1, 10, MIN, MAX}) DUE.is("square(3, 1, " + number + ")", x.square(3, 1, number), -2);
        DUE.is("KIND as it was", x.squareTold(3, 0), 5);
        DUE.is("NUMBER as it was", x.squareTold(3, 1), 9);
    }

    private static void squareRefused() {
        DUE.by("2: BAD; refusals change nothing");
        REFUSED.ofBoth("square(-1, 3, 3)", x -> x.square(-1, 3, 3), -2);
        REFUSED.ofBoth("square(n, 3, 3)", x -> x.square(x.count(0), 3, 3), -2);
        REFUSED.ofBoth("square(0, -1, 3)", x -> x.square(0, -1, 3), -2);
        REFUSED.ofBoth("square(0, 6, 3)", x -> x.square(0, 6, 3), -2);
        REFUSED.ofBoth("square(0, 3, -1)", x -> x.square(0, 3, -1), -2);
        REFUSED.ofBoth("square(0, 3, 10)", x -> x.square(0, 3, 10), -2);
    }

    // ---- 3, 4

    private static void stepsBits() {
        DUE.by("3: STEPS (1 .. 31): bits 0 .. 4 for steps 1 .. 5, one at least");
        ChalkStreet x = Scenes.ring(10);
        int before = 1;
        for (int set = 1; set < 32; set++) {
            DUE.is("steps(" + set + ")", x.steps(set), before);
            before = set;
            for (int step = 1; step < 10; step++) {
                boolean allowed = step < 6 && (set & 1 << step - 1) != 0;
                DUE.is("step " + step + " of " + set, x.play(step), allowed ? 10 + step : -100);
            }
        }
        for (int set : new int[] {0, -1, 32, 33, 63, MIN, MAX}) DUE.is("steps(" + set + ")", x.steps(set), -2);
        DUE.is("as they were", x.count(1), 31);
    }

    private static void stepsRefused() {
        DUE.by("3: BAD; refusals change nothing");
        REFUSED.ofBoth("steps(0)", x -> x.steps(0), -2);
        REFUSED.ofBoth("steps(32)", x -> x.steps(32), -2);
        REFUSED.ofBoth("steps(-1)", x -> x.steps(-1), -2);
    }

    private static void squareToldWhat() {
        DUE.by("4: 0 KIND, 1 NUMBER. BAD");
        ChalkStreet x = Scenes.ring(10);
        x.square(0, 5, 9);
        x.square(9, 4, 8);
        DUE.is("squareTold(0, 0)", x.squareTold(0, 0), 5);
        DUE.is("squareTold(0, 1)", x.squareTold(0, 1), 9);
        DUE.is("squareTold(9, 0)", x.squareTold(9, 0), 4);
        DUE.is("squareTold(9, 1)", x.squareTold(9, 1), 8);
        REFUSED.ofBoth("squareTold(-1, 0)", y -> y.squareTold(-1, 0), -2);
        REFUSED.ofBoth("squareTold(n, 0)", y -> y.squareTold(y.count(0), 0), -2);
        REFUSED.ofBoth("squareTold(0, -1)", y -> y.squareTold(0, -1), -2);
        REFUSED.ofBoth("squareTold(0, 2)", y -> y.squareTold(0, 2), -2);
    }

    // ---- what a MOVE does

    private static void moveGoesRound() {
        DUE.by("11: a MOVE by a step d from SQUARE s comes to s + d modulo n");
        for (int n = 4; n <= 10; n++) {
            ChalkStreet x = Scenes.ring(n);
            x.steps(31);
            long row = 0;
            for (int s = 0; s < n; s++) {
                // The stone lies at s after s steps of 1.
                long next = 1;
                for (int i = 0; i < s; i++) next *= 10;
                for (int d = 1; d <= 5; d++) {
                    DUE.is("from " + s + " by " + d + " of " + n, x.play(row + d * next), (s + 1) % 2 * 10 + (s + d) % n);
                }
                row += next;
            }
        }
    }

    private static void backGoesRound() {
        DUE.by("11: BACK: it lies NUMBER squares behind c (modulo n)");
        for (int n = 4; n <= 10; n++) {
            ChalkStreet x = Scenes.ring(n);
            for (int number = 0; number < 10; number++) {
                x.square(1, 4, number);
                int lies = 1;
                for (int i = 0; i < number; i++) lies = lies == 0 ? n - 1 : lies - 1;
                DUE.is("BACK by " + number + " of " + n, x.play(1), lies);
            }
        }
    }

    private static void noKindBehind() {
        DUE.by("11: BACK: as AGAIN, no KIND counts there");
        for (int kind = 0; kind < 6; kind++) {
            ChalkStreet x = Scenes.ring(4);
            x.steps(31);
            x.square(0, kind, 0);
            x.square(1, 4, 1);
            DUE.is("behind lies KIND " + kind, x.play(1), 0);
            DUE.is("and it goes on", x.play(21), 12);
            DUE.is("the second one as well", x.play(132), 10);
            x.square(1, 4, 0);
            DUE.is("BACK itself counts once", x.play(1), 1);
        }
    }

    private static void farAboveItsNumber() {
        DUE.by("11: FAR: as HOME, if it came there by a step above its NUMBER; else as PLAIN");
        for (int d = 1; d <= 5; d++) {
            ChalkStreet x = Scenes.ring(10);
            x.steps(31);
            for (int number = 0; number < 10; number++) {
                x.square(d, 5, number);
                DUE.is("FAR " + number + " by " + d, x.play(d), d > number ? 100 : 10 + d);
                x.square(d, 0, 0);
                x.square((d + 1) % 10, 5, number);
                DUE.is("FAR " + number + " by 1, then " + d, x.play(10 * d + 1), d > number ? 101 : d + 1);
                x.square((d + 1) % 10, 0, 0);
            }
        }
    }

    // ---- 5

    private static void toldWonOrLostInOne() {
        DUE.by("5: k WON in k, -100 less k LOST in k; at once (1)");
        for (int n = 4; n <= 10; n++) {
            ChalkStreet x = Scenes.ring(n);
            x.square(0, 3, 0);
            DUE.is("ahead of HOME", x.worth(n - 1), 1);
            x.square(0, 2, 0);
            DUE.is("ahead of OUT", x.worth(n - 1), -101);
            x.square(0, 5, 0);
            DUE.is("ahead of FAR 0", x.worth(n - 1), 1);
            x.square(0, 5, 1);
            DUE.is("ahead of FAR 1", x.worth(n - 1), 0);
        }
    }

    private static void longestGames() {
        DUE.by("5: WON in k moves, LOST in k (of both together)");
        ChalkStreet x = Scenes.ring(10);
        x.square(0, 3, 0);
        for (int s = 0; s < 10; s++) DUE.is("HOME at 0: worth(" + s + ")", x.worth(s), s % 2 == 1 ? 10 - s : s - 110);
        ChalkStreet y = allOf(10, 1);
        y.square(0, 3, 0);
        for (int s = 0; s < 10; s++) DUE.is("HOME, else AGAIN: worth(" + s + ")", y.worth(s), 10 - s);
        y.square(0, 2, 0);
        for (int s = 0; s < 10; s++) DUE.is("OUT, else AGAIN: worth(" + s + ")", y.worth(s), s - 110);
        for (int s = 0; s < 10; s++) DUE.is("OUT, else AGAIN: best(" + s + ")", y.best(s), 1);
    }

    private static void fewestAndMost() {
        DUE.by("5: WON: as few as can be; LOST: as many as can be, the most of 1 and 1 more than each");
        ChalkStreet x = Scenes.ring(8);
        x.steps(3);
        x.square(4, 3, 0);
        DUE.is("at once", x.worth(3), 1);
        DUE.is("at once by step 2", x.worth(2), 1);
        DUE.is("each step to one that is WON in 1", x.worth(1), -102);
        DUE.is("to one that is LOST in 2", x.worth(0), 3);
        DUE.is("to one that is LOST in 2, by step 2", x.worth(7), 3);
        DUE.is("each step to one that is WON in 3", x.worth(6), -104);
        DUE.is("to one that is LOST in 4", x.worth(5), 5);
        x.square(3, 2, 0);
        DUE.is("OUT loses in 1, but 2 is WON in 1: in 2", x.worth(1), -102);
        x.square(2, 2, 0);
        DUE.is("OUT by both", x.worth(1), -101);
    }

    private static void worthRefused() {
        DUE.by("5: BAD (-2)");
        REFUSED.ofBoth("worth(-1)", x -> x.worth(-1), -2);
        REFUSED.ofBoth("worth(n)", x -> x.worth(x.count(0)), -2);
        REFUSED.ofBoth("worth(MIN)", x -> x.worth(MIN), -2);
        REFUSED.ofBoth("worth(MAX)", x -> x.worth(MAX), -2);
    }

    // ---- 6, 7

    private static void bestLeastStep() {
        DUE.by("6: WON: the least that wins in as few; LOST: the least that loses in as many; ENDLESS: the least");
        ChalkStreet x = allOf(10, 3);
        x.steps(31);
        DUE.is("all HOME", x.best(0), 1);
        for (int step = 1; step < 5; step++) {
            x.square(step, 2, 0);
            DUE.is("OUT till " + step, x.best(0), step + 1);
        }
        x.square(5, 2, 0);
        DUE.is("all OUT", x.best(0), 1);
        DUE.is("all OUT", x.worth(0), -101);
        for (int step = 5; step > 0; step--) {
            ChalkStreet y = allOf(10, 2);
            y.steps(31);
            y.square(step, 4, step);
            DUE.is("BACK to 0 alone is ENDLESS", y.best(0), step);
        }
        for (int step = 5; step > 0; step--) {
            ChalkStreet y = allOf(10, 2);
            y.steps(31);
            y.square(step, 1, 0);
            DUE.is("AGAIN loses a move later", y.best(0), step);
            DUE.is("AGAIN loses a move later", y.worth(0), -102);
        }
    }

    private static void bestRefused() {
        DUE.by("6: BAD");
        REFUSED.ofBoth("best(-1)", x -> x.best(-1), -2);
        REFUSED.ofBoth("best(n)", x -> x.best(x.count(0)), -2);
        REFUSED.ofBoth("best(MIN)", x -> x.best(MIN), -2);
        REFUSED.ofBoth("best(MAX)", x -> x.best(MAX), -2);
    }

    private static void manyOf(String what, ChalkStreet x, int won, int lost, int endless) {
        DUE.is("WON of " + what, x.many(0), won);
        DUE.is("LOST of " + what, x.many(1), lost);
        DUE.is("ENDLESS of " + what, x.many(2), endless);
    }

    private static void manyNoneAndAll() {
        DUE.by("7: how many SQUARES are (0) WON, (1) LOST, (2) ENDLESS");
        for (int n = 4; n <= 10; n++) {
            manyOf("PLAIN " + n, Scenes.ring(n), 0, 0, n);
            manyOf("HOME " + n, allOf(n, 3), n, 0, 0);
            manyOf("OUT " + n, allOf(n, 2), 0, n, 0);
        }
    }

    private static void manyRefused() {
        DUE.by("7: BAD");
        REFUSED.ofBoth("many(-1)", x -> x.many(-1), -2);
        REFUSED.ofBoth("many(3)", x -> x.many(3), -2);
        REFUSED.ofBoth("many(MIN)", x -> x.many(MIN), -2);
    }

    // ---- 8

    private static void ringOfOneAndOfAll() {
        DUE.by("8: the SQUARES (bits) that come again and again");
        for (int n = 4; n <= 10; n++) {
            ChalkStreet x = Scenes.ring(n);
            for (int s = 0; s < n; s++) DUE.is("all " + n, x.ring(s), (1 << n) - 1);
            x.square(0, 4, 1);
            for (int s = 0; s < n; s++) DUE.is("the last of " + n + " alone", x.ring(s), 1 << n - 1);
            x.square(0, 0, 0);
            x.square(1, 4, 1);
            for (int s = 0; s < n; s++) DUE.is("the first of " + n + " alone", x.ring(s), 1);
        }
        ChalkStreet x = Scenes.ring(10);
        x.square(0, 4, 9);
        DUE.is("BACK by 9 is on by 1", x.ring(4), 1023 - 1);
    }

    private static void ringOfNone() {
        DUE.by("8: NONE: the SQUARE isn't ENDLESS");
        ChalkStreet x = Scenes.ring(4);
        x.square(1, 4, 1);
        x.square(3, 2, 0);
        DUE.is("ENDLESS", x.ring(0), 1);
        DUE.is("WON", x.worth(1), 2);
        DUE.is("WON", x.ring(1), -1);
        DUE.is("LOST", x.worth(2), -101);
        DUE.is("LOST", x.ring(2), -1);
    }

    private static void ringRefused() {
        DUE.by("8: BAD");
        REFUSED.ofBoth("ring(-1)", x -> x.ring(-1), -2);
        REFUSED.ofBoth("ring(n)", x -> x.ring(x.count(0)), -2);
        REFUSED.ofBoth("ring(MIN)", x -> x.ring(MIN), -2);
        REFUSED.ofBoth("ring(MAX)", x -> x.ring(MAX), -2);
    }

    // ---- 9

    private static void mendIs(String what, ChalkStreet x, int many, int first, int second) {
        DUE.is("mend(-1) of " + what, x.mend(-1), many);
        DUE.is("mend(0) of " + what, x.mend(0), first);
        DUE.is("mend(1) of " + what, x.mend(1), second);
        DUE.is("mend(2) of " + what, x.mend(2), -1);
    }

    /** From each square ahead of one of these one comes back to it for ever: so many rounds of one square each. */
    private static ChalkStreet rounds(int n, int many) {
        ChalkStreet x = Scenes.ring(n);
        for (int i = 0; i < many; i++) x.square(2 * i + 1, 4, 1);
        return x;
    }

    private static void mendByNone() {
        DUE.by("9: none, if none is now");
        ChalkStreet x = Scenes.ring(4);
        mendIs("all PLAIN", x, 1, 2, -1);
        x.square(3, 3, 0);
        mendIs("one HOME", x, 0, -1, -1);
    }

    private static void mendByOne() {
        DUE.by("9: the fewest changes");
        mendIs("one round of one", rounds(10, 1), 1, 12, -1);
        ChalkStreet x = rounds(10, 1);
        x.square(3, 3, 0);
        mendIs("one round of one and HOME", x, 1, 10, -1);
        mendIs("all PLAIN", Scenes.ring(10), 1, 2, -1);
    }

    private static void mendByTwo() {
        DUE.by("9: 2 at most");
        mendIs("two rounds of one", rounds(10, 2), 2, 10, 32);
        ChalkStreet x = rounds(10, 2);
        x.square(5, 3, 0);
        mendIs("two rounds of one and HOME", x, 2, 10, 30);
    }

    private static void mendNotByTwo() {
        DUE.by("9: NONE: not by 2");
        ChalkStreet x = rounds(10, 3);
        mendIs("three rounds of one", x, -1, -1, -1);
        x.square(7, 3, 0);
        mendIs("three rounds of one and HOME", x, -1, -1, -1);
        x.square(1, 0, 0);
        mendIs("two of them left", x, 2, 30, 50);
        x.square(3, 0, 0);
        mendIs("one of them left", x, 1, 50, -1);
        x.square(5, 0, 0);
        mendIs("none of them left", x, 0, -1, -1);
    }

    private static void mendToAnotherKind() {
        DUE.by("9: another KIND of 0 .. 3 than they are (NUMBER as it is)");
        for (int kind = 0; kind < 6; kind++) {
            // One round of all, which nothing but OUT or HOME ends, at 0 as well as elsewhere.
            ChalkStreet x = Scenes.ring(4);
            x.square(0, kind, 9);
            x.square(1, 4, 0);
            x.square(2, 1, 0);
            x.square(3, 1, 0);
            boolean ends = kind == 2 || kind == 3;
            mendIs("KIND " + kind, x, ends ? 0 : 1, ends ? -1 : 2, -1);
        }
        ChalkStreet y = rounds(4, 1);
        y.square(3, 3, 0);
        DUE.is("BACK becomes PLAIN", y.mend(0), 10);
        y.square(1, 0, 1);
        DUE.is("nothing is mended by telling it", y.mend(-1), 0);
        // Found by trying each change: FAR at 0 (of the first) and at 2 (of the second) would mend as well.
        ChalkStreet z = Scenes.ring(9);
        z.steps(28);
        z.square(0, 2, 3);
        z.square(5, 1, 3);
        mendIs("HOME at 2, not FAR at 0", z, 1, 23, -1);
        ChalkStreet w = Scenes.ring(6);
        w.steps(5);
        w.square(2, 4, 1);
        w.square(5, 1, 2);
        mendIs("HOME at 4, not FAR at 2", w, 1, 43, -1);
    }

    private static void change(ChalkStreet x, int i) {
        x.square(7 * i % x.count(0), i % 5 == 4 || i % 3 != 0 ? 4 : 0, i * i % 10);
        if (i % 10 == 9) x.steps(1 << i / 10);
    }

    private static void mendAsTheRulesAre() {
        DUE.by("9: so that no SQUARE is ENDLESS, by THE SET as it is then");
        for (int n = 4; n <= 10; n++) {
            ChalkStreet x = Scenes.ring(n);
            for (int i = 0; i < 30; i++) {
                change(x, i);
                ChalkStreet fresh = Scenes.ring(n);
                for (int k = 0; k <= i; k++) change(fresh, k);
                for (int k = -1; k < 2; k++) DUE.is("mend(" + k + ") as of a fresh one", x.mend(k), fresh.mend(k));
            }
        }
        ChalkStreet y = Scenes.ring(10);
        for (int s = 0; s < 10; s++) y.square(s, s % 5 == 0 ? 4 : 0, 0);
        mendIs("BACK by 0 at 0 and 5", y, 1, 2, -1);
        for (int s = 0; s < 10; s++) y.square(s, s % 5 == 0 ? 4 : 0, 1);
        mendIs("BACK by 1 at 0 and 5", y, 2, 0, 52);
        // A NUMBER alone is another one, whatever the KIND beside it is.
        ChalkStreet v = Scenes.ring(10);
        for (int before = 0; before < 10; before++) {
            for (int number = 0; number < 10; number++) {
                v.square(9, 4, before);
                v.mend(-1);
                v.square(9, 4, number);
                ChalkStreet fresh = Scenes.ring(10);
                fresh.square(9, 4, number);
                DUE.is("BACK by " + number + ", by " + before + " ahead", v.mend(0), fresh.mend(0));
            }
        }
        ChalkStreet z = allOf(10, 0);
        mendIs("all PLAIN", z, 1, 2, -1);
        for (int s = 0; s < 10; s++) z.square(s, 3, 0);
        mendIs("all HOME", z, 0, -1, -1);
    }

    private static void mendOfLikeOnes() {
        DUE.by("9: that of which the first SQUARE is least, then its KIND, then the second SQUARE, then its KIND");
        ChalkStreet x = Scenes.ring(4);
        DUE.is("OUT at 0 ahead of HOME", x.mend(0), 2);
        x.square(0, 4, 1);
        DUE.is("BACK at 0 to OUT", x.mend(0), 2);
        ChalkStreet y = rounds(10, 2);
        y.square(9, 1, 0);
        mendIs("PLAIN at 1, OUT at 3", y, 2, 10, 32);
        y.square(6, 2, 0);
        mendIs("PLAIN at 1, PLAIN at 3", y, 2, 10, 30);
    }

    private static void mendEndmost() {
        DUE.by("9: change i as 10 * SQUARE + KIND");
        // By step 5 there are five rounds of two squares, s and s + 5; BACK by 5 makes one of a single square.
        ChalkStreet x = Scenes.ring(10);
        x.steps(16);
        for (int s = 2; s < 7; s++) x.square(s, 3, 0);
        x.square(0, 4, 5);
        x.square(1, 4, 5);
        mendIs("BACK at 0 and 1", x, 2, 0, 10);
        x.square(1, 3, 0);
        mendIs("BACK at 0", x, 1, 0, -1);
        ChalkStreet y = Scenes.ring(10);
        y.steps(16);
        for (int s = 0; s < 3; s++) y.square(s, 3, 0);
        y.square(8, 4, 5);
        y.square(9, 4, 5);
        mendIs("BACK at 8 and 9", y, 2, 82, 92);
        y.square(4, 3, 0);
        mendIs("BACK at 8 and 9, HOME at 4", y, 2, 82, 90);
        y.square(3, 3, 0);
        mendIs("BACK at 8 and 9, HOME at 3 and 4", y, 2, 80, 90);
        y.square(8, 2, 0);
        mendIs("BACK at 9", y, 1, 90, -1);
        y.square(4, 0, 0);
        mendIs("BACK at 9, PLAIN at 4", y, 1, 92, -1);
        // Found by trying each change: by more steps than one an OUT can be gone round, a HOME can't.
        ChalkStreet z = Scenes.ring(10);
        z.steps(12);
        z.square(8, 1, 0);
        mendIs("HOME at 9", z, 1, 93, -1);
        z.square(8, 0, 0);
        z.square(1, 4, 5);
        z.steps(22);
        mendIs("OUT at 0, HOME at 9", z, 2, 2, 93);
    }

    private static void mendNoneSuch() {
        DUE.by("9: NONE: none such");
        for (int i : new int[] {-3, -2, 1, 2, 3, 9, MIN, MAX}) DUE.is("mend(" + i + ") of one", Scenes.ring(4).mend(i), -1);
        for (int i : new int[] {-2, 2, 3, MIN, MAX}) DUE.is("mend(" + i + ") of two", rounds(10, 2).mend(i), -1);
        REFUSED.ofBoth("mend(-2)", x -> x.mend(-2), -1);
        REFUSED.ofBoth("mend(2)", x -> x.mend(2), -1);
        REFUSED.ofBoth("mend(MIN)", x -> x.mend(MIN), -1);
    }

    // ---- 10

    private static void playsOf(String what, ChalkStreet x, int m, long first, long second, long neither) {
        DUE.is("the first of " + m + ", " + what, x.plays(m, 0), first);
        DUE.is("the second of " + m + ", " + what, x.plays(m, 1), second);
        DUE.is("neither of " + m + ", " + what, x.plays(m, 2), neither);
    }

    private static void playsOfNoMoves() {
        DUE.by("10: PLAYS of m moves (0 .. 12)");
        ChalkStreet x = allOf(4, 3);
        playsOf("all HOME", x, 0, 0, 0, 1);
        playsOf("all HOME", x, 1, 1, 0, 0);
        playsOf("all HOME", x, 2, 0, 0, 0);
        playsOf("all HOME", x, 12, 0, 0, 0);
        DUE.is("one that the first has won", x.plays(1, 0), 1);
        playsOf("all HOME, again", x, 0, 0, 0, 1);
        x = allOf(4, 2);
        DUE.is("one that the second has won", x.plays(1, 1), 1);
        playsOf("all OUT", x, 0, 0, 0, 1);
        DUE.is("-1", x.plays(-1, 2), ChalkStreet.NO);
        DUE.is("13", x.plays(13, 2), ChalkStreet.NO);
    }

    private static void playsOfTwelve() {
        DUE.by("10: all rows of m allowed steps that can be made");
        ChalkStreet x = Scenes.ring(10);
        x.steps(31);
        playsOf("all PLAIN", x, 12, 0, 0, 244140625L);
        playsOf("all PLAIN", x, 11, 0, 0, 48828125L);
        ChalkStreet y = allOf(10, 1);
        y.square(0, 0, 0);
        y.square(2, 3, 0);
        playsOf("AGAIN till HOME", y, 2, 1, 0, 0);
        ChalkStreet z = Scenes.ring(4);
        z.steps(2);
        playsOf("one row", z, 12, 0, 0, 1);
    }

    private static void playsOverAhead() {
        DUE.by("10: the game isn't over ahead of the last one");
        ChalkStreet x = Scenes.ring(10);
        x.square(9, 3, 0);
        playsOf("HOME at 9", x, 8, 0, 0, 1);
        playsOf("HOME at 9", x, 9, 1, 0, 0);
        playsOf("HOME at 9", x, 10, 0, 0, 0);
        x.square(9, 2, 0);
        playsOf("OUT at 9", x, 9, 0, 1, 0);
        x.square(9, 0, 0);
        x.square(8, 3, 0);
        playsOf("HOME at 8", x, 8, 0, 1, 0);
        x.square(8, 2, 0);
        playsOf("OUT at 8", x, 8, 1, 0, 0);
    }

    private static void playsRefused() {
        DUE.by("10: NO: m, what");
        REFUSED.ofBoth("plays(-1, 0)", x -> x.plays(-1, 0), ChalkStreet.NO);
        REFUSED.ofBoth("plays(13, 0)", x -> x.plays(13, 0), ChalkStreet.NO);
        REFUSED.ofBoth("plays(0, -1)", x -> x.plays(0, -1), ChalkStreet.NO);
        REFUSED.ofBoth("plays(12, 3)", x -> x.plays(12, 3), ChalkStreet.NO);
        REFUSED.ofBoth("plays(MAX, 0)", x -> x.plays(MAX, 0), ChalkStreet.NO);
        REFUSED.ofBoth("plays(MIN, MIN)", x -> x.plays(MIN, MIN), ChalkStreet.NO);
    }

    // ---- 11

    private static void playEnds() {
        DUE.by("11: 0 .. 9 the first player is to move, 10 .. 19 the second one is; 100 the first has won, 101 the second");
        ChalkStreet x = Scenes.ring(10);
        DUE.is("no step", x.play(0), 0);
        DUE.is("the second one at 9", x.play(111111111L), 19);
        DUE.is("the first one at 0", x.play(1111111111L), 0);
        DUE.is("the second one at 1", x.play(1), 11);
        x.square(9, 1, 0);
        DUE.is("the first one at 9", x.play(111111111L), 9);
        DUE.is("the second one at 0", x.play(1111111111L), 10);
        x.square(1, 3, 0);
        DUE.is("the first has won", x.play(1), 100);
        x.square(1, 2, 0);
        DUE.is("the second has won", x.play(1), 101);
        x.square(1, 0, 0);
        x.square(2, 3, 0);
        DUE.is("the second has won", x.play(11), 101);
        x.square(2, 2, 0);
        DUE.is("the first has won", x.play(11), 100);
    }

    private static void playZeroEnds() {
        DUE.by("11: a 0 ends it");
        ChalkStreet x = Scenes.ring(10);
        x.square(2, 3, 0);
        DUE.is("0 behind 1", x.play(1), 11);
        DUE.is("0 ahead of one that isn't allowed", x.play(901), 11);
        DUE.is("0 ahead of one behind the end", x.play(1011), 101);
        DUE.is("0 at the lowest", x.play(10), 0);
        DUE.is("0 at the lowest of 18", x.play(999999999999999990L), 0);
        DUE.is("0 at the second of 18", x.play(999999999999999901L), 11);
    }

    private static void playDigits() {
        DUE.by("11: 18 digits at most; BAD: more than 18 digits");
        ChalkStreet x = Scenes.ring(10);
        DUE.is("17 digits", x.play(11111111111111111L), 17);
        DUE.is("18 digits", x.play(111111111111111111L), 8);
        DUE.is("19 digits", x.play(1111111111111111111L), -2);
        DUE.is("the most of 18", x.play(999999999999999999L), -100);
        DUE.is("the least of 18", x.play(100000000000000000L), 0);
        DUE.is("the least of 19", x.play(1000000000000000000L), -2);
        DUE.is("the most", x.play(Long.MAX_VALUE), -2);
    }

    private static void playNotAllowed() {
        DUE.by("11: -100 less the place of the first step that can't be made (not allowed)");
        ChalkStreet x = Scenes.ring(10);
        x.steps(2 + 8);
        DUE.is("place 0", x.play(1), -100);
        DUE.is("place 0 of many", x.play(111), -100);
        DUE.is("place 1", x.play(32), -101);
        DUE.is("place 17", x.play(122222222222222222L), -117);
        DUE.is("place 16 of 18", x.play(212222222222222222L), -116);
        for (int step = 6; step < 10; step++) DUE.is("step " + step, x.play(10 * step + 4), -101);
    }

    private static void playOver() {
        DUE.by("11: -100 less the place of the first step that can't be made (the game is over)");
        ChalkStreet x = Scenes.ring(10);
        x.square(1, 3, 0);
        DUE.is("place 1", x.play(11), -101);
        DUE.is("a step that isn't allowed, too", x.play(91), -101);
        ChalkStreet y = allOf(10, 0);
        y.square(9, 4, 1);
        y.square(7, 2, 0);
        DUE.is("OUT by place 6", y.play(1111111), 101);
        DUE.is("place 7", y.play(11111111), -107);
        ChalkStreet z = Scenes.ring(10);
        z.steps(3);
        z.square(9, 3, 0);
        DUE.is("over by the 18th", z.play(111111111211111111L), 101);
        z.square(9, 0, 0);
        z.square(8, 3, 0);
        DUE.is("over by the 17th", z.play(11111111121111111L), 100);
        DUE.is("place 17", z.play(111111111121111111L), -117);
    }

    private static void playRefused() {
        DUE.by("11: BAD: below 0, more than 18 digits");
        REFUSED.ofBoth("play(-1)", x -> x.play(-1), -2);
        REFUSED.ofBoth("play(Long.MIN_VALUE)", x -> x.play(Long.MIN_VALUE), -2);
        REFUSED.ofBoth("play(10^18)", x -> x.play(1000000000000000000L), -2);
        REFUSED.ofBoth("play(9)", x -> x.play(9), -100);
    }
}
