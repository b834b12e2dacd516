/** Promises 23 to 30, and what a TEXT comes to: each sentence that names a bound, just inside it and just outside. */
public final class StreetsBoundsTest {
    private static final Due DUE = new Due("StreetsBoundsTest");
    private static final Refused REFUSED = new Refused(DUE);
    private static final int MIN = Integer.MIN_VALUE, MAX = Integer.MAX_VALUE;

    public static void main(String[] args) {
        forceTexts();
        forceRefused();
        wrapping();
        whatIsTrue();
        lessAtTheEnds();
        namesAtTheEnds();
        namesOfTheLast();
        theFirstText();
        saysRefused();
        streetRing();
        streetTellings();
        streetRefused();
        yearsThirty();
        yearsTillTheLast();
        yearsRefused();
        keepNone();
        takeAbove();
        takeAboveNone();
        lesserSideFirst();
        allAtOnce();
        streetsAreARing();
        yearThatBegins();
        hasRefused();
        gamePlayers();
        gameStake();
        gameAsFarAsThereAre();
        gameNotOver();
        gameRefused();
        marblesPlayers();
        countNoneAndAll();
        countRefused();
        DUE.covers(23, 30);
        DUE.end();
    }

    // ---- 23

    private static void forceTexts() {
        DUE.by("23: a TEXT is THE RULE: which was. BAD; 6 TEXTS at most, TEXT 0 with them");
        ChalkStreet x = Scenes.ring(4);
        x.telling(0, 0);
        for (int i = 1; i < 6; i++) {
            DUE.is("not read yet", x.force(i), -2);
            DUE.is("read", Scenes.read(x, "take 10*" + i + ";keep " + i + ";"), i);
            DUE.is("the last", x.force(i), i - 1);
            DUE.is("its take", x.says(0, 0), 10 * i);
            DUE.is("its keep", x.says(0, 1), i);
        }
        for (int t : new int[] {-1, 6, 7, MIN, MAX}) DUE.is("force(" + t + ")", x.force(t), -2);
        DUE.is("what it is", x.force(5), 5);
        DUE.is("the first", x.force(0), 5);
        DUE.is("its take", x.says(0, 0), 0);
        for (int i = 1; i < 6; i++) {
            DUE.is("back to " + i, x.force(i), i - 1);
            DUE.is("its take is as it was", x.says(0, 0), 10 * i);
        }
    }

    private static void forceRefused() {
        DUE.by("23: BAD; refusals change nothing");
        REFUSED.ofSome("force(-1)", x -> x.force(-1), -2);
        REFUSED.ofSome("force(2)", x -> x.force(2), -2);
        REFUSED.ofFull("force(6)", x -> x.force(6), -2);
        REFUSED.ofBoth("force(MIN)", x -> x.force(MIN), -2);
        REFUSED.ofBoth("force(MAX)", x -> x.force(MAX), -2);
    }

    // ---- 24

    private static void comesTo(String e, long want) {
        ChalkStreet x = Scenes.ring(4);
        x.telling(0, 0);
        Scenes.read(x, "take " + e + ";keep 1;");
        x.force(1);
        DUE.is(e, x.says(0, 0), want);
        ChalkStreet y = Scenes.ring(4);
        y.telling(0, 0);
        Scenes.read(y, "take 1;keep " + e + ";");
        y.force(1);
        DUE.is("keep " + e, y.says(0, 1), want);
    }

    private static void wrapping() {
        DUE.by("24: an E is an int (32 bits, wrapping)");
        // 2^15 * 2^15 = 2^30; 8192 = 2^13.
        String half = "8192*8192*16";
        comesTo(half, 1 << 30);
        comesTo(half + "-1+" + half, MAX);
        comesTo(half + "-1+" + half + "+1", MIN);
        comesTo(half + "+" + half, MIN);
        comesTo(half + "*2", MIN);
        comesTo("-(" + half + "*2)", MIN);
        comesTo("--(" + half + "*2)", MIN);
        comesTo("0-" + half + "*2", MIN);
        comesTo("0-" + half + "*2-1", MAX);
        comesTo("-" + half + "-" + half, MIN);
        comesTo("-" + half + "-" + half + "-1", MAX);
        comesTo(half + "*4", 0);
        comesTo("-(" + half + ")*4+7", 7);
        comesTo("(" + half + "*2)*(" + half + "*2)", 0);
        comesTo("(" + half + "*2+1)*3", MIN + 3);
        comesTo("(" + half + "*2-1)*(" + half + "*2-1)", 1);
        comesTo("9999*9999*21+9999*9999", 9999L * 9999 * 22 - (1L << 32));
        comesTo("9999*9999*9999*9999", (int) (99980001L * 99980001L));
    }

    private static void whatIsTrue() {
        DUE.by("24: of or, and, not, <, = 1 or 0 (what is not 0 is true)");
        String[] values = {"0", "1", "2", "-1", "9999", "8192*8192*32"};
        for (int i = 0; i < values.length; i++) {
            comesTo("not " + values[i], i == 0 ? 1 : 0);
            comesTo("not not " + values[i], i == 0 ? 0 : 1);
            for (int j = 0; j < values.length; j++) {
                comesTo(values[i] + " or " + values[j], i + j == 0 ? 0 : 1);
                comesTo(values[i] + " and " + values[j], i * j == 0 ? 0 : 1);
                comesTo(values[i] + " = " + values[j], i == j ? 1 : 0);
            }
        }
        comesTo("2 and 4", 1);
        comesTo("1 and 2", 1);
        comesTo("8192*8192*64", 0);
        comesTo("8192*8192*64 or 0", 0);
    }

    private static void lessAtTheEnds() {
        DUE.by("24: < and = of ints");
        String least = "8192*8192*32";
        comesTo(least + " < 0", 1);
        comesTo("0 < " + least, 0);
        comesTo(least + " < " + least + "-1", 1);
        comesTo(least + "-1 < " + least, 0);
        comesTo(least + " < " + least, 0);
        comesTo(least + " = " + least, 1);
        comesTo(least + " = " + least + "-1", 0);
        comesTo("4 < 4", 0);
        comesTo("3 < 4", 1);
        comesTo("5 < 4", 0);
        comesTo("-1 < -0", 1);
    }

    private static void names(ChalkStreet x, int year, int won, int lost, int endless, int steps, int own) {
        String[] names = {"year", "won", "lost", "endless", "steps"};
        int[] want = {year, won, lost, endless, steps};
        for (int i = 0; i < 5; i++) {
            Scenes.read(x, "take " + names[i] + ";keep own;");
            x.force(i + 1);
            DUE.is(names[i], x.says(0, 0), want[i]);
            DUE.is("own", x.says(0, 1), own);
        }
    }

    private static void namesAtTheEnds() {
        DUE.by("24: year; won, lost, endless: how many SQUARES are that by it; steps: how many are allowed; own");
        ChalkStreet x = Scenes.ring(10);
        x.telling(0, 0);
        names(x, 0, 0, 0, 10, 1, 0);
        ChalkStreet y = Scenes.ring(10);
        for (int s = 0; s < 10; s++) y.square(s, 3, 0);
        y.steps(31);
        y.telling(999, 0);
        for (int i = 0; i < 33; i++) y.years(30);
        y.years(9);
        names(y, 999, 10, 0, 0, 5, 999);
        ChalkStreet z = Scenes.ring(10);
        for (int s = 0; s < 10; s++) z.square(s, 2, 0);
        z.telling(7, 0);
        z.years(1);
        names(z, 1, 0, 10, 0, 1, 7);
        ChalkStreet w = Scenes.ring(4);
        for (int s = 0; s < 4; s++) w.square(s, 3, 0);
        w.telling(7, 0);
        for (int s = 0; s < 4; s++) w.gap(0, s);
        w.date(0, 999);
        names(w, 0, 0, 0, 4, 1, 999);
    }

    private static void namesOfTheLast() {
        DUE.by("24: of a TELLING, each of twelve");
        ChalkStreet x = Scenes.ring(10);
        for (int t = 0; t < 12; t++) {
            // Of so many HOMEs behind one another each is ahead of another one; the rest goes by turns.
            if (t > 0 && t < 11) x.square(t - 1, 3, 0);
            x.telling(10 * t, 0);
        }
        Scenes.read(x, "take won*100+lost*10+endless;keep own;");
        x.force(1);
        int[] won = {0, 5, 6, 6, 7, 7, 8, 8, 9, 9, 10, 10};
        for (int t = 0; t < 12; t++) {
            int endless = t == 0 ? 10 : 0;
            int lost = 10 - won[t] - endless;
            DUE.is("take of " + t, x.says(t, 0), 100 * won[t] + 10 * lost + endless);
            DUE.is("keep of " + t, x.says(t, 1), 10 * t);
        }
    }

    /** So many ENDLESS SQUARES: step 1 leads from 0 on to one that is BACK by 1, and behind that to HOME. */
    private static ChalkStreet endless(int many) {
        ChalkStreet x = Scenes.ring(10);
        x.square(many, 4, 1);
        x.square(0, 3, 0);
        x.telling(0, 0);
        return x;
    }

    private static void theFirstText() {
        DUE.by("24: TEXT 0, at first, and THE RULE, is: take won ; keep endless < 3 ;");
        for (int many = 1; many < 8; many++) {
            ChalkStreet x = endless(many);
            DUE.is("ENDLESS", x.many(2), many);
            DUE.is("keep by " + many, x.says(0, 1), many < 3 ? 1 : 0);
            DUE.is("take by " + many, x.says(0, 0), (11 - many) / 2);
            x.street(0, 0);
            x.years(1);
            DUE.is("kept by " + many, x.has(0), many < 3 ? 0 : -1);
        }
    }

    private static void saysRefused() {
        DUE.by("24: NO: none such");
        DUE.is("none told", Scenes.ring(4).says(0, 0), ChalkStreet.NO);
        ChalkStreet x = Scenes.ring(4);
        x.telling(0, 0);
        DUE.is("take", x.says(0, 0), 0);
        DUE.is("keep", x.says(0, 1), 0);
        REFUSED.ofBoth("says(-1, 0)", y -> y.says(-1, 0), ChalkStreet.NO);
        REFUSED.ofBoth("says(0, -1)", y -> y.says(0, -1), ChalkStreet.NO);
        REFUSED.ofBoth("says(0, 2)", y -> y.says(0, 2), ChalkStreet.NO);
        REFUSED.ofSome("says(3, 0)", y -> y.says(3, 0), ChalkStreet.NO);
        REFUSED.ofFull("says(12, 1)", y -> y.says(12, 1), ChalkStreet.NO);
        REFUSED.ofFull("says(MAX, 1)", y -> y.says(MAX, 1), ChalkStreet.NO);
        REFUSED.ofFull("says(MIN, MIN)", y -> y.says(MIN, MIN), ChalkStreet.NO);
    }

    // ---- 25, 27

    private static void streetRing() {
        DUE.by("25: STREETS 0 .. 7");
        ChalkStreet x = Scenes.ring(4);
        x.telling(0, 0);
        for (int s = 0; s < 8; s++) {
            DUE.is("has none", x.has(s), -1);
            DUE.is("street(" + s + ", 0)", x.street(s, 0), -1);
            DUE.is("has(" + s + ")", x.has(s), 0);
            DUE.is("count(7)", x.count(7), s + 1);
        }
        for (int s : new int[] {-1, 8, 9, MIN, MAX}) DUE.is("street(" + s + ", -1)", x.street(s, -1), -5);
        DUE.is("all as they were", x.count(7), 8);
    }

    private static void streetTellings() {
        DUE.by("25: a STREET has a TELLING (-1: none): which it had (NONE). -5: no such TELLING");
        ChalkStreet x = Scenes.ring(4);
        DUE.is("none, of none told", x.street(0, -1), -1);
        DUE.is("the first, of none told", x.street(0, 0), -5);
        for (int t = 0; t < 12; t++) {
            x.telling(0, 0);
            DUE.is("the last told", x.street(7, t), t - 1);
            DUE.is("not told yet", x.street(7, t + 1), -5);
            DUE.is("has(7)", x.has(7), t);
        }
        for (int t : new int[] {-2, 12, 13, MIN, MAX}) DUE.is("street(7, " + t + ")", x.street(7, t), -5);
        DUE.is("none", x.street(7, -1), 11);
        DUE.is("none again", x.street(7, -1), -1);
        DUE.is("has(7)", x.has(7), -1);
    }

    private static void streetRefused() {
        DUE.by("25: -5: no such STREET, TELLING; refusals change nothing");
        REFUSED.ofBoth("street(-1, 0)", x -> x.street(-1, 0), -5);
        REFUSED.ofBoth("street(8, 0)", x -> x.street(8, 0), -5);
        REFUSED.ofBoth("street(8, -1)", x -> x.street(8, -1), -5);
        REFUSED.ofBoth("street(0, -2)", x -> x.street(0, -2), -5);
        REFUSED.ofSome("street(0, 3)", x -> x.street(0, 3), -5);
        REFUSED.ofFull("street(0, 12)", x -> x.street(0, 12), -5);
        REFUSED.ofFull("street(MAX, MAX)", x -> x.street(MAX, MAX), -5);
    }

    private static void hasRefused() {
        DUE.by("27: NONE; BAD");
        ChalkStreet x = Scenes.ring(4);
        DUE.is("has(0)", x.has(0), -1);
        DUE.is("has(7)", x.has(7), -1);
        REFUSED.ofBoth("has(-1)", y -> y.has(-1), -2);
        REFUSED.ofBoth("has(8)", y -> y.has(8), -2);
        REFUSED.ofSome("has(MIN)", y -> y.has(MIN), -2);
        REFUSED.ofSome("has(MAX)", y -> y.has(MAX), -2);
    }

    // ---- 26

    private static void yearsThirty() {
        DUE.by("26: n YEARS (1 .. 30) go by: YEAR. BAD");
        ChalkStreet x = Scenes.ring(4);
        DUE.is("1", x.years(1), 1);
        DUE.is("30", x.years(30), 31);
        for (int n : new int[] {0, -1, 31, 32, 1000, MIN, MAX}) DUE.is("years(" + n + ")", x.years(n), -2);
        DUE.is("as it was", x.count(6), 31);
        for (int n = 2; n < 30; n++) {
            int before = x.count(6);
            DUE.is("years(" + n + ")", x.years(n), before + n);
        }
    }

    private static void yearsTillTheLast() {
        DUE.by("26: FULL: above 999");
        ChalkStreet x = Scenes.ring(4);
        for (int i = 1; i < 34; i++) DUE.is("years(30)", x.years(30), 30 * i);
        DUE.is("to 1000", x.years(10), -4);
        DUE.is("to 1020", x.years(30), -4);
        DUE.is("BAD ahead of FULL", x.years(31), -2);
        DUE.is("as it was", x.count(6), 990);
        DUE.is("to 999", x.years(9), 999);
        DUE.is("to 1000", x.years(1), -4);
        DUE.is("BAD ahead of FULL", x.years(0), -2);
        DUE.is("as it was", x.count(6), 999);
        ChalkStreet y = Scenes.ring(4);
        for (int i = 1; i < 33; i++) y.years(30);
        y.years(10);
        DUE.is("from 970 to 1000", y.years(30), -4);
        DUE.is("from 970 to 999", y.years(29), 999);
    }

    private static void yearsRefused() {
        DUE.by("26: BAD; FULL; refusals change nothing");
        REFUSED.ofSome("years(0)", x -> x.years(0), -2);
        REFUSED.ofSome("years(-1)", x -> x.years(-1), -2);
        REFUSED.ofSome("years(31)", x -> x.years(31), -2);
        REFUSED.ofFull("years(1)", x -> x.years(1), -4);
        REFUSED.ofFull("years(30)", x -> x.years(30), -4);
        REFUSED.ofFull("years(31)", x -> x.years(31), -2);
        REFUSED.ofFull("years(MIN)", x -> x.years(MIN), -2);
    }

    /** TELLINGS of these YEARS, which THE RULE can name as own, and STREETS that have them. */
    private static ChalkStreet follow(String rule, int[] years, int... tellings) {
        ChalkStreet x = Scenes.ring(4);
        for (int year : years) x.telling(year, 0);
        DUE.is("read " + rule, Scenes.read(x, rule), 1);
        x.force(1);
        for (int s = 0; s < tellings.length; s++) x.street(s, tellings[s]);
        return x;
    }

    private static void have(String what, ChalkStreet x, int... tellings) {
        for (int s = 0; s < 8; s++) DUE.is(what + ": has(" + s + ")", x.has(s), tellings[s]);
    }

    private static void keepNone() {
        DUE.by("26: one whose TELLING has keep 0 has none then; else");
        String[] keeps = {"own", "own<1 or own=2", "-own", "own*8192*8192*32"};
        int[][] kept = {{-1, 1, 2}, {0, -1, 2}, {-1, 1, 2}, {-1, 1, -1}};
        for (int i = 0; i < keeps.length; i++) {
            ChalkStreet x = follow("take 0;keep " + keeps[i] + ";", new int[] {0, 1, 2}, 0, 0, 0, 1, 1, 2, 2, 0);
            x.years(1);
            int[] k = kept[i];
            have("keep " + keeps[i], x, k[0], k[0], k[0], k[1], k[1], k[2], k[2], k[0]);
        }
        ChalkStreet y = follow("take own;keep own<5;", new int[] {4, 5}, 1, 0, -1, -1, -1, -1, -1, -1);
        y.years(1);
        have("none, whatever the neighbours have", y, -1, 1, 0, -1, -1, -1, -1, 1);
    }

    private static void takeAbove() {
        DUE.by("26: takes up that of its neighbours whose take is greatest, if that is above take of its own");
        ChalkStreet x = follow("take own;keep 1;", new int[] {10, 11, 12}, 1, 0, 1, 2, 1, 1, 1, 1);
        x.years(1);
        have("above by one", x, 1, 1, 2, 2, 2, 1, 1, 1);
        ChalkStreet y = follow("take own;keep 1;", new int[] {10, 10, 9}, 0, 1, 0, 2, 1, 0, 0, 1);
        y.years(1);
        have("not of like ones", y, 0, 1, 0, 0, 1, 0, 0, 1);
        ChalkStreet z = follow("take 8192*8192*32-own;keep 1;", new int[] {0, 1}, 0, 1, 0, 1, 1, 0, 0, 0);
        z.years(1);
        have("the greatest int and the least", z, 1, 1, 1, 1, 1, 1, 0, 0);
    }

    private static void takeAboveNone() {
        DUE.by("26: take of its own (-1000000, if it has none)");
        int[] years = {0, 1, 2};
        ChalkStreet x = follow("take own-1000*1000-1;keep 1;", years, 0, -1, -1, -1, 1, -1, -1, -1);
        x.years(3);
        have("-1000001 and -1000000", x, 0, -1, -1, -1, 1, -1, -1, -1);
        ChalkStreet y = follow("take own-1000*1000-1;keep 1;", years, -1, -1, 2, -1, -1, -1, 1, -1);
        y.years(1);
        have("-999999", y, -1, 2, 2, 2, -1, -1, 1, -1);
        ChalkStreet z = follow("take 8192*8192*32;keep 1;", years, -1, 0, -1, 1, -1, -1, -1, 2);
        z.years(5);
        have("the least int", z, -1, 0, -1, 1, -1, -1, -1, 2);
    }

    private static void lesserSideFirst() {
        DUE.by("26: of its neighbours (the lesser side first: STREET - 1, then + 1)");
        ChalkStreet x = follow("take 1;keep 1;", new int[] {0, 1}, 0, -1, 1, -1, 0, -1, 1, -1);
        x.years(1);
        have("like ones on both sides", x, 0, 0, 1, 1, 0, 0, 1, 1);
        ChalkStreet y = follow("take own;keep 1;", new int[] {0, 1}, 0, -1, 1, -1, 0, -1, 1, -1);
        y.years(1);
        have("the greater one on either side", y, 0, 1, 1, 1, 0, 1, 1, 1);
    }

    private static void allAtOnce() {
        DUE.by("26: a YEAR goes by, for all STREETS at once");
        int[] years = {0, 1, 2, 3, 4, 5, 6, 7};
        ChalkStreet x = follow("take own;keep 1;", years, 0, 1, 2, 3, 4, 5, 6, 7);
        x.years(1);
        have("one on", x, 7, 2, 3, 4, 5, 6, 7, 7);
        x.years(1);
        have("two on", x, 7, 7, 4, 5, 6, 7, 7, 7);
        ChalkStreet y = follow("take own;keep 1;", years, 7, 6, 5, 4, 3, 2, 1, 0);
        y.years(2);
        have("two back", y, 7, 7, 7, 6, 5, 4, 7, 7);
        ChalkStreet z = follow("take own;keep own<7;", years, -1, -1, -1, 7, -1, -1, -1, -1);
        z.years(1);
        have("taken up where it isn't kept", z, -1, -1, 7, -1, 7, -1, -1, -1);
    }

    private static void streetsAreARing() {
        DUE.by("26: STREETS 0 .. 7 are a ring");
        ChalkStreet x = follow("take own;keep 1;", new int[] {5}, 0, -1, -1, -1, -1, -1, -1, -1);
        x.years(1);
        have("0 beside 7", x, 0, 0, -1, -1, -1, -1, -1, 0);
        ChalkStreet y = follow("take own;keep 1;", new int[] {5}, -1, -1, -1, -1, -1, -1, -1, 0);
        y.years(1);
        have("7 beside 0", y, 0, -1, -1, -1, -1, -1, 0, 0);
        y.years(2);
        have("and on", y, 0, 0, 0, -1, 0, 0, 0, 0);
        y.years(1);
        DUE.is("all in four YEARS", y.count(7), 8);
        ChalkStreet z = follow("take 1;keep 1;", new int[] {5, 5}, -1, 1, -1, -1, -1, -1, -1, 0);
        z.years(1);
        have("of 0 the lesser side is 7", z, 0, 1, 1, -1, -1, -1, 0, 0);
        ChalkStreet w = follow("take 1;keep 1;", new int[] {5, 5}, 1, -1, -1, -1, -1, -1, 0, -1);
        w.years(1);
        have("of 7 the lesser side is 6", w, 1, 1, -1, -1, -1, 0, 0, 0);
    }

    private static void yearThatBegins() {
        DUE.by("26: take, keep by the YEAR that begins");
        ChalkStreet x = follow("take 1;keep year<2;", new int[] {0}, 0, 0, 0, 0, 0, 0, 0, 0);
        x.years(1);
        DUE.is("the YEAR 1", x.count(7), 8);
        x.years(1);
        DUE.is("the YEAR 2", x.count(7), 0);
        ChalkStreet y = follow("take year=30;keep year<31;", new int[] {0}, 0, -1, -1, -1, -1, -1, -1, -1);
        y.years(30);
        DUE.is("three STREETS in each of them", y.count(7), 8);
        ChalkStreet z = follow("take year;keep year=1 or year=2;", new int[] {0}, 0, -1, -1, -1, -1, -1, -1, -1);
        z.years(3);
        have("each YEAR by itself", z, -1, -1, -1, 0, -1, 0, -1, -1);
    }

    // ---- 28, 29

    /** A game that the first player has won by step 1 and lost by step 2, and that goes on by step 3. */
    private static ChalkStreet game() {
        ChalkStreet x = Scenes.ring(10);
        x.square(1, 3, 0);
        x.square(2, 2, 0);
        x.steps(7);
        return x;
    }

    private static void gamePlayers() {
        DUE.by("28: PLAYERS 0 .. 3; BAD: PLAYERS (alike, too)");
        for (int first = 0; first < 4; first++) {
            for (int second = 0; second < 4; second++) {
                ChalkStreet x = game();
                DUE.is("game(" + first + ", " + second + ")", x.game(first, second, 1, 1), first == second ? -2 : 0);
                for (int p = 0; p < 4; p++) {
                    int gained = first == second ? 0 : p == first ? 1 : p == second ? -1 : 0;
                    DUE.is("marbles(" + p + ")", x.marbles(p), 20 + gained);
                }
            }
        }
        ChalkStreet x = game();
        for (int p : new int[] {-1, 4, MIN, MAX}) {
            DUE.is("game(" + p + ", 0)", x.game(p, 0, 1, 1), -2);
            DUE.is("game(0, " + p + ")", x.game(0, p, 1, 1), -2);
            DUE.is("game(" + p + ", " + p + ")", x.game(p, p, 1, 1), -2);
        }
        for (int p = 0; p < 4; p++) DUE.is("marbles(" + p + ")", x.marbles(p), 20);
    }

    private static void gameStake() {
        DUE.by("28: a STAKE (0 .. 9)");
        for (int stake = 0; stake < 10; stake++) {
            ChalkStreet x = game();
            DUE.is("the first has won " + stake, x.game(0, 3, stake, 1), 0);
            DUE.is("of the second", x.marbles(3), 20 - stake);
            DUE.is("to the first", x.marbles(0), 20 + stake);
            DUE.is("the second has won " + stake, x.game(1, 2, stake, 2), 1);
            DUE.is("of the first", x.marbles(1), 20 - stake);
            DUE.is("to the second", x.marbles(2), 20 + stake);
            for (int s : new int[] {-1, 10, MIN, MAX}) DUE.is("game for " + s, x.game(0, 1, s, 1), -2);
        }
    }

    private static void gameAsFarAsThereAre() {
        DUE.by("28: gives the STAKE to who won, as far as there are so many");
        ChalkStreet x = game();
        x.game(0, 1, 9, 1);
        DUE.is("all but two", x.game(0, 1, 9, 1), 0);
        DUE.is("two", x.marbles(1), 2);
        DUE.is("as many as there are", x.game(0, 1, 2, 1), 0);
        DUE.is("none", x.marbles(1), 0);
        DUE.is("all", x.marbles(0), 40);
        DUE.is("none of none", x.game(2, 1, 9, 1), 0);
        DUE.is("none", x.marbles(1), 0);
        DUE.is("nothing gained", x.marbles(2), 20);
        DUE.is("one back", x.game(1, 0, 1, 1), 0);
        DUE.is("one of two", x.game(2, 1, 2, 1), 0);
        DUE.is("none", x.marbles(1), 0);
        DUE.is("one gained", x.marbles(2), 21);
        for (int i = 0; i < 9; i++) x.game(0, 2 + i % 2, 9, 1);
        x.game(0, 3, 9, 1);
        int[] want = {80, 0, 0, 0};
        for (int p = 0; p < 4; p++) DUE.is("marbles(" + p + ")", x.marbles(p), want[p]);
        for (int i = 0; i < 8; i++) DUE.is("lost", x.game(0, 3, 9, 2), 1);
        DUE.is("eight left", x.marbles(0), 8);
        DUE.is("lost for nine", x.game(0, 3, 9, 2), 1);
        DUE.is("none left", x.marbles(0), 0);
        DUE.is("all gained", x.marbles(3), 80);
    }

    private static void gameNotOver() {
        DUE.by("28: 2: it isn't over, nothing is given");
        ChalkStreet x = game();
        DUE.is("no step", x.game(0, 1, 9, 0), 2);
        DUE.is("a step", x.game(0, 1, 9, 3), 2);
        DUE.is("a 0 ends it", x.game(0, 1, 9, 103), 2);
        for (int p = 0; p < 4; p++) DUE.is("marbles(" + p + ")", x.marbles(p), 20);
        ChalkStreet y = Scenes.ring(10);
        DUE.is("18 steps", y.game(0, 1, 9, 111111111111111111L), 2);
        y.square(8, 3, 0);
        DUE.is("over by the 8th", y.game(0, 1, 9, 11111111), 1);
        DUE.is("the second one's", y.marbles(1), 29);
    }

    private static void gameRefused() {
        DUE.by("28: BAD: PLAYERS, STAKE, row; STATE: a step can't be made");
        REFUSED.ofSome("game(-1, 0, 1, 1)", x -> x.game(-1, 0, 1, 1), -2);
        REFUSED.ofSome("game(0, 4, 1, 1)", x -> x.game(0, 4, 1, 1), -2);
        REFUSED.ofSome("game(2, 2, 1, 1)", x -> x.game(2, 2, 1, 1), -2);
        REFUSED.ofSome("game(0, 1, -1, 1)", x -> x.game(0, 1, -1, 1), -2);
        REFUSED.ofSome("game(0, 1, 10, 1)", x -> x.game(0, 1, 10, 1), -2);
        REFUSED.ofSome("game(0, 1, 1, -1)", x -> x.game(0, 1, 1, -1), -2);
        REFUSED.ofSome("game(0, 1, 1, 10^18)", x -> x.game(0, 1, 1, 1000000000000000000L), -2);
        REFUSED.ofSome("game(0, 1, 1, the least)", x -> x.game(0, 1, 1, Long.MIN_VALUE), -2);
        REFUSED.ofBoth("game(0, 1, 9, 9)", x -> x.game(0, 1, 9, 9), -3);
        REFUSED.ofBoth("game(0, 1, 9, 11)", x -> x.game(0, 1, 9, 11), -3);
        REFUSED.ofBoth("game(0, 1, 9, 91), over ahead", x -> x.game(0, 1, 9, 91), -3);
        REFUSED.ofBoth("game(0, 0, 9, 9), BAD ahead", x -> x.game(0, 0, 9, 9), -2);
        REFUSED.ofBoth("game(0, 1, 10, 9), BAD ahead", x -> x.game(0, 1, 10, 9), -2);
        REFUSED.ofSome("game(0, 1, 9, 0)", x -> x.game(0, 1, 9, 0), 2);
        REFUSED.ofSome("game(0, 1, 0, 1)", x -> x.game(0, 1, 0, 1), 0);
    }

    private static void marblesPlayers() {
        DUE.by("29: MARBLES (20 at first each) of a PLAYER. BAD");
        ChalkStreet x = Scenes.ring(4);
        for (int p = 0; p < 4; p++) DUE.is("marbles(" + p + ")", x.marbles(p), 20);
        REFUSED.ofBoth("marbles(-1)", y -> y.marbles(-1), -2);
        REFUSED.ofBoth("marbles(4)", y -> y.marbles(4), -2);
        REFUSED.ofSome("marbles(MIN)", y -> y.marbles(MIN), -2);
        REFUSED.ofSome("marbles(MAX)", y -> y.marbles(MAX), -2);
    }

    // ---- 30

    private static void countNoneAndAll() {
        DUE.by("30: 0 SQUARES, 1 STEPS, 2 TELLINGS, 3 TEXTS, 4 bytes of THE TAPE, 5 THE RULE, 6 YEAR, 7 STREETS");
        int[] none = {10, 1, 0, 1, 0, 0, 0, 0};
        ChalkStreet x = Scenes.ring(10);
        for (int what = 0; what < 8; what++) DUE.is("at first: count(" + what + ")", x.count(what), none[what]);
        int[] all = {4, 1, 12, 6, 160, 5, 999, 8};
        ChalkStreet y = Scenes.full();
        for (int what = 0; what < 8; what++) DUE.is("full: count(" + what + ")", y.count(what), all[what]);
        y.steps(31);
        DUE.is("all STEPS", y.count(1), 31);
        for (int s = 0; s < 8; s++) {
            y.street(s, -1);
            DUE.is("fewer STREETS", y.count(7), 7 - s);
        }
    }

    private static void countRefused() {
        DUE.by("30: BAD");
        REFUSED.ofBoth("count(-1)", x -> x.count(-1), -2);
        REFUSED.ofBoth("count(8)", x -> x.count(8), -2);
        REFUSED.ofSome("count(MIN)", x -> x.count(MIN), -2);
        REFUSED.ofSome("count(MAX)", x -> x.count(MAX), -2);
    }
}
