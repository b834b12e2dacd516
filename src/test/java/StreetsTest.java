import java.nio.charset.StandardCharsets;

/** Promises 21 to 30: THE TAPE, TEXTS, STREETS, YEARS and MARBLES. */
public final class StreetsTest {
    private static final Due DUE = new Due("StreetsTest");

    public static void main(String[] args) {
        feed();
        text();
        faults();
        open();
        afterFaults();
        force();
        firstRule();
        reckoned();
        street();
        years();
        yearsAtOnce();
        yearThatBegins();
        game();
        marbles();
        count();
        DUE.end();
    }

    private static void write(ChalkStreet x, String text) {
        for (byte sign : text.getBytes(StandardCharsets.ISO_8859_1)) x.feed(1, sign);
    }

    private static int read(ChalkStreet x, String text) {
        write(x, text);
        return x.text();
    }

    private static void feed() {
        ChalkStreet x = new ChalkStreet(0);
        DUE.is("21 three", x.feed(3, 0x1122334455667788L), 3);
        DUE.is("21 eight", x.feed(8, -1), 11);
        DUE.is("21 n", x.feed(0, 1), -2);
        DUE.is("21 n", x.feed(9, 1), -2);
        DUE.is("21 n", x.feed(-1, 1), -2);
        DUE.is("21 n", x.feed(Integer.MIN_VALUE, 1), -2);
        for (int i = 0; i < 18; i++) x.feed(8, 0);
        DUE.is("21 155", x.count(4), 155);
        DUE.is("21 full", x.feed(6, 0), -4);
        DUE.is("21 bad ahead of full", x.feed(9, 0), -2);
        DUE.is("21 160", x.feed(5, 0), 160);
        DUE.is("21 full", x.feed(1, 0), -4);
        // "take won" from the lowest byte on, then "; keep 1;"
        ChalkStreet y = new ChalkStreet(0);
        y.feed(8, 0x6e6f7720656b6174L);
        y.feed(8, 0x31207065656b203bL);
        y.feed(1, 0x777777773bL);
        DUE.is("21 the lowest first", y.text(), 1);
    }

    private static void text() {
        ChalkStreet x = new ChalkStreet(0);
        DUE.is("22 the first", read(x, "take won;keep 1;"), 1);
        DUE.is("22 empty then", x.count(4), 0);
        DUE.is("22 blanks", read(x, "\n take\n\nwon ; keep 1 ; \n "), 2);
        DUE.is("22 a fault", read(x, "take won; keep 1"), -116);
        DUE.is("22 empty then", x.count(4), 0);
        DUE.is("22 none made", x.count(3), 3);
        DUE.is("22 tokens as long as can be", read(x, "take 12or 3and year;keep not not 9999;"), 3);
        DUE.is("22 all", read(x, "take -(1+2)*won-lost<endless and steps=own or year;keep-1;"), 4);
        DUE.is("22 the last", read(x, "take 0;keep 0;"), 5);
        write(x, "take 0;keep 0;");
        DUE.is("22 full", x.text(), -4);
        DUE.is("22 the tape stays", x.count(4), 14);
        ChalkStreet y = new ChalkStreet(0);
        StringBuilder long160 = new StringBuilder("take 1");
        while (long160.length() < 152) long160.append("+1");
        long160.append(";keep 1;");
        DUE.is("22 160 bytes", read(y, long160.toString()), 1);
        y.telling(0, 0);
        y.force(1);
        DUE.is("22 160 bytes", y.says(0, 0), 74);
    }

    private static void fault(String text, int place) {
        ChalkStreet x = new ChalkStreet(0);
        DUE.is("22 fault of " + text, read(x, text), -100 - place);
        DUE.is("22 empty after " + text, x.count(4), 0);
        DUE.is("22 none made of " + text, x.count(3), 1);
    }

    private static void faults() {
        fault("", 0);
        fault("  \n", 3);
        fault("keep 1; take 1;", 0);
        fault("take", 4);
        fault("take ", 5);
        fault("take ;", 5);
        fault("take 1", 6);
        fault("take 1 2;", 7);
        fault("take 1; take", 8);
        fault("take 1;;", 7);
        fault("take 1; keep 1; ;", 16);
        fault("take 1; keep 1; 1", 16);
        fault("take 1; keep 1; #", 16);
        fault("take 1; keep 1; take 1; keep 1;", 16);
        fault("take #", 5);
        fault("take A", 5);
        fault("take wonn;keep 1;", 5);
        fault("takewon;", 0);
        fault("take 1 wo", 7);
        fault("take 12345;keep 1;", 5);
        fault("take 1+12345;keep 1;", 7);
        fault("take 1 12345;", 7);
        fault("take 1 = 2 = 3;", 11);
        fault("take 1 < 2 < 3;", 11);
        fault("take 1 + not 2;", 9);
        fault("take 1 < not 2;", 9);
        fault("take - not 2;", 7);
        fault("take not;", 8);
        fault("take 1 or;", 9);
        fault("take or 1;", 5);
        fault("take 1 and or 1;", 11);
        fault("take (1;", 7);
        fault("take (1));", 8);
        fault("take ();", 6);
        fault("take 1 + * 2;", 9);
        fault("take + 1;", 5);
        fault("take keep;", 5);
        fault("take 1\t;", 6);
        fault("take 1 \u00e9;", 7);
        fault("take 1\u0000;", 6);
        fault("take 1 > 2;", 7);
        fault("take 1; keep (1 = 1", 19);
        fault("take 1 (", 7);
        fault("takez 1;", 0);
        fault("takea 1;", 0);
        fault("take{ 1;", 4);
        fault("take` 1;", 4);
        fault("take 1/", 6);
        fault("take 1:", 6);
    }

    private static void afterFaults() {
        ChalkStreet x = new ChalkStreet(0);
        for (int i = 0; i < 9; i++) DUE.is("22 fault", read(x, "take 1+1+1+1+1+1+1+1+1+1+1+1+1;"), -131);
        DUE.is("22 after faults", read(x, "take 7-1;keep 3*3;"), 1);
        x.force(1);
        x.telling(0, 0);
        DUE.is("24 after faults", x.says(0, 0), 6);
        DUE.is("24 after faults", x.says(0, 1), 9);
    }

    private static void open() {
        fault("take ((((((1))))));keep 1;", 10);
        fault("take not not not not not not 1;keep 1;", 25);
        fault("take ------1;keep 1;", 10);
        fault("take (((((-1)))));keep 1;", 10);
        fault("take not(-(-(1 + (2))));keep 1;", 12);
        fault("take not(-(-1 + (1 + (2))));keep 1;", 21);
        fault("take not not not not not 1 < (1);keep 1;", 29);
        fault("take not not not not not - 1;keep 1;", 25);
        String[] good = {"take (((((1)))));keep 1;", "take not not not not not 1 - 1 < 2;keep not 1;",
            "take -----1 - 1;keep 1;", "take (((((1-1)))))+(((((1)))));keep 1;",
            "take not not not not not 1 and (1) - -1;keep 1;"};
        ChalkStreet x = new ChalkStreet(0);
        for (int i = 0; i < good.length; i++) DUE.is("22 open in " + good[i], read(x, good[i]), i + 1);
    }

    private static void force() {
        ChalkStreet x = new ChalkStreet(0);
        DUE.is("23 no text", x.force(1), -2);
        DUE.is("23 below", x.force(-1), -2);
        read(x, "take 5;keep 6;");
        DUE.is("23 force", x.force(1), 0);
        DUE.is("23 the rule", x.count(5), 1);
        DUE.is("23 beyond", x.force(2), -2);
        DUE.is("23 beyond", x.force(6), -2);
        x.telling(0, 0);
        DUE.is("23 take", x.says(0, 0), 5);
        DUE.is("23 keep", x.says(0, 1), 6);
        DUE.is("23 back", x.force(0), 1);
        DUE.is("23 take", x.says(0, 0), 0);
    }

    private static void firstRule() {
        ChalkStreet x = new ChalkStreet(0);
        DUE.is("24 no telling", x.says(0, 0), ChalkStreet.NO);
        x.telling(0, 0);
        x.square(1, 3, 0);
        x.telling(0, 0);
        DUE.is("24 all ENDLESS", x.says(0, 0), 0);
        DUE.is("24 all ENDLESS", x.says(0, 1), 0);
        DUE.is("24 half WON", x.says(1, 0), 2);
        DUE.is("24 none ENDLESS", x.says(1, 1), 1);
        x.gap(1, 1);
        DUE.is("24 the gap is PLAIN", x.says(1, 0), 0);
        int[][] no = {{-1, 0}, {2, 0}, {0, -1}, {0, 2}};
        for (int[] n : no) DUE.is("24 NO", x.says(n[0], n[1]), ChalkStreet.NO);
    }

    private static void comesTo(String e, int want) {
        // Eight squares, steps 1 and 3, in the year 40, told of the year 7.
        ChalkStreet x = new ChalkStreet(4);
        x.square(7, 3, 0);
        x.steps(5);
        x.telling(7, 0);
        x.years(30);
        x.years(10);
        if (read(x, "take " + e + ";keep " + e + ";") == 1) x.force(1);
        DUE.is("24 take " + e, x.says(0, 0), want);
        DUE.is("24 keep " + e, x.says(0, 1), want);
    }

    private static void reckoned() {
        comesTo("year", 40);
        comesTo("own", 7);
        comesTo("steps", 2);
        comesTo("won + lost + endless", 8);
        comesTo("won", 4);
        comesTo("lost", 4);
        comesTo("endless", 0);
        comesTo("0000", 0);
        comesTo("1 and 1", 1);
        comesTo("0012", 12);
        comesTo("2+3*4", 14);
        comesTo("(2+3)*4", 20);
        comesTo("10-3-2", 5);
        comesTo("- 2 * 3", -6);
        comesTo("-2 - -3", 1);
        comesTo("--2", 2);
        comesTo("2 < 3", 1);
        comesTo("3 < 3", 0);
        comesTo("-1 < 0", 1);
        comesTo("3 = 1 + 2", 1);
        comesTo("3 = 4", 0);
        comesTo("5 or 0", 1);
        comesTo("0 or 0", 0);
        comesTo("5 and -3", 1);
        comesTo("5 and 0", 0);
        comesTo("not 5", 0);
        comesTo("not 0", 1);
        comesTo("not not 7", 1);
        comesTo("not 1 = 0", 1);
        comesTo("not 0 and 0", 0);
        comesTo("1 or 0 and 0", 1);
        comesTo("0 and 0 or 1", 1);
        comesTo("0 or 2", 1);
        comesTo("(1 < 2) < 2", 1);
        comesTo("1 + (2 = 2) * 5", 6);
        comesTo("9999 * 9999 * 9999", (int) (9999L * 9999 * 9999));
        comesTo("9999*9999*22 + 9999*9999*22", (int) (9999L * 9999 * 44));
        comesTo("-(9999 * 9999 * 9999)", (int) -(9999L * 9999 * 9999));
        comesTo("0 - 9999 * 9999 * 43", (int) -(9999L * 9999 * 43));
    }

    private static void street() {
        ChalkStreet x = new ChalkStreet(0);
        x.telling(0, 0);
        DUE.is("25 none ahead", x.street(0, 0), -1);
        DUE.is("25 one ahead", x.street(0, -1), 0);
        DUE.is("25 the last street", x.street(7, 0), -1);
        int[][] no = {{-1, 0}, {8, 0}, {0, 1}, {0, -2}, {0, Integer.MIN_VALUE}};
        for (int[] n : no) DUE.is("25 none such", x.street(n[0], n[1]), -5);
        DUE.is("25 unchanged", x.has(0), -1);
        DUE.is("27 has", x.has(7), 0);
        DUE.is("27 none", x.has(6), -1);
        DUE.is("27 bad", x.has(8), -2);
        DUE.is("27 bad", x.has(-1), -2);
    }

    private static void years() {
        ChalkStreet x = new ChalkStreet(0);
        for (int bad : new int[] {0, -1, 31, Integer.MAX_VALUE}) DUE.is("26 bad", x.years(bad), -2);
        for (int i = 1; i <= 33; i++) DUE.is("26 years", x.years(30), 30 * i);
        DUE.is("26 full", x.years(10), -4);
        DUE.is("26 bad ahead of full", x.years(31), -2);
        DUE.is("26 unchanged", x.count(6), 990);
        DUE.is("26 to the end", x.years(9), 999);
        DUE.is("26 full", x.years(1), -4);
    }

    /** Tellings whose own YEAR is what THE RULE takes them by, all kept. */
    private static ChalkStreet byYears(String rule, int... years) {
        ChalkStreet x = new ChalkStreet(0);
        for (int year : years) x.telling(year, 0);
        read(x, rule);
        x.force(1);
        return x;
    }

    private static void follow(ChalkStreet x, int... tellings) {
        for (int s = 0; s < 8; s++) x.street(s, tellings[s]);
    }

    private static void follows(String what, ChalkStreet x, int... want) {
        for (int s = 0; s < 8; s++) DUE.is("26 " + what + " has(" + s + ")", x.has(s), want[s]);
    }

    private static void yearsAtOnce() {
        ChalkStreet x = byYears("take own;keep 1;", 10, 20, 30);
        follow(x, 0, -1, -1, -1, -1, -1, -1, -1);
        x.years(1);
        follows("both sides", x, 0, 0, -1, -1, -1, -1, -1, 0);
        x.years(2);
        follows("three years", x, 0, 0, 0, 0, -1, 0, 0, 0);
        follow(x, 0, 1, 2, 0, -1, -1, -1, -1);
        x.years(1);
        follows("the greatest", x, 1, 2, 2, 2, 0, -1, -1, 0);
        ChalkStreet y = byYears("take own;keep 1;", 10, 10, 5);
        follow(y, 0, 2, 1, -1, 1, 0, -1, 1);
        y.years(1);
        follows("the lesser side first", y, 0, 0, 1, 1, 1, 0, 0, 1);
        // 3 lies between 1 and 1; 6 between 0 and 1; 0 has what is like its neighbour's and keeps it.
        ChalkStreet z = byYears("take own;keep not own = 20;", 10, 20);
        follow(z, 1, 0, -1, -1, -1, -1, -1, -1);
        z.years(1);
        follows("one that isn't kept is taken up all the same", z, -1, 1, 0, -1, -1, -1, -1, 1);
        z.years(1);
        follows("and isn't kept then", z, 1, -1, 1, 0, -1, -1, 1, -1);
        ChalkStreet w = byYears("take own - 1000 * 1000;keep 1;", 0, 1);
        follow(w, 0, -1, -1, -1, 1, -1, -1, -1);
        w.years(1);
        follows("-1000000 is not above none's", w, 0, -1, -1, 1, 1, 1, -1, -1);
        ChalkStreet v = byYears("take 0 - 1000 * 1001;keep 1;", 0);
        follow(v, 0, -1, 0, -1, -1, -1, -1, -1);
        v.years(3);
        follows("below none's", v, 0, -1, 0, -1, -1, -1, -1, -1);
    }

    private static void yearThatBegins() {
        ChalkStreet x = byYears("take own; keep year < 3;", 10);
        follow(x, 0, -1, -1, -1, -1, -1, -1, -1);
        x.years(2);
        follows("the year 2", x, 0, 0, 0, -1, -1, -1, 0, 0);
        x.years(1);
        follows("the year 3", x, -1, -1, -1, 0, -1, 0, -1, -1);
        ChalkStreet y = byYears("take (year = 1) * own;keep 1;", 10, 20);
        follow(y, 0, 1, -1, -1, -1, -1, -1, 0);
        y.years(1);
        follows("take by the year 1", y, 1, 1, 1, -1, -1, -1, 0, 0);
        y.years(1);
        follows("all alike in the year 2", y, 1, 1, 1, 1, -1, 0, 0, 0);
    }

    private static void game() {
        ChalkStreet x = new ChalkStreet(0);
        x.steps(3);
        x.square(1, 3, 0);
        DUE.is("28 the first", x.game(2, 0, 9, 1), 0);
        DUE.is("29 gained", x.marbles(2), 29);
        DUE.is("29 lost", x.marbles(0), 11);
        DUE.is("28 the second", x.game(2, 0, 5, 122), 0);
        DUE.is("28 goes on", x.game(2, 0, 5, 2), 2);
        DUE.is("28 goes on, no step", x.game(2, 0, 5, 0), 2);
        DUE.is("29 nothing given", x.marbles(0), 6);
        DUE.is("28 as far as there are so many", x.game(2, 0, 9, 1), 0);
        DUE.is("29 all lost", x.marbles(0), 0);
        DUE.is("29 all gained", x.marbles(2), 40);
        DUE.is("28 nothing to give", x.game(2, 0, 9, 1), 0);
        DUE.is("29 all gained", x.marbles(2), 40);
        x.square(1, 2, 0);
        DUE.is("28 the second one", x.game(2, 0, 7, 1), 1);
        DUE.is("29 back", x.marbles(0), 7);
        DUE.is("28 no stake", x.game(2, 0, 0, 1), 1);
        int[][] bad = {{-1, 0, 1, 1}, {0, 4, 1, 1}, {4, 0, 1, 1}, {0, -1, 1, 1}, {1, 1, 1, 1},
            {0, 1, -1, 1}, {0, 1, 10, 1}, {0, 1, 1, -1}, {0, 0, 1, 3}, {0, 1, 10, 3}};
        for (int[] b : bad) DUE.is("28 bad", x.game(b[0], b[1], b[2], b[3]), -2);
        DUE.is("28 a row of 19", x.game(0, 1, 1, 1000000000000000000L), -2);
        DUE.is("28 not allowed", x.game(0, 1, 1, 3), -3);
        DUE.is("28 over", x.game(0, 1, 1, 11), -3);
        DUE.is("29 unchanged", x.marbles(0), 7);
        DUE.is("29 unchanged", x.marbles(1), 20);
    }

    private static void marbles() {
        ChalkStreet x = new ChalkStreet(0);
        DUE.is("29 bad", x.marbles(-1), -2);
        DUE.is("29 bad", x.marbles(4), -2);
        DUE.is("29 the last", x.marbles(3), 20);
    }

    private static void count() {
        ChalkStreet x = new ChalkStreet(3);
        x.steps(9);
        x.telling(0, 0);
        x.telling(0, 0);
        read(x, "take 1;keep 1;");
        x.force(1);
        x.feed(7, 0);
        x.years(4);
        x.street(3, 0);
        x.street(5, 1);
        x.street(6, 1);
        int[] want = {7, 9, 2, 2, 7, 1, 4, 3};
        for (int i = 0; i < 8; i++) DUE.is("30 count(" + i + ")", x.count(i), want[i]);
        DUE.is("30 bad", x.count(-1), -2);
        DUE.is("30 bad", x.count(8), -2);
    }
}
