/** Promises 31 to 35: each sentence that names a bound, just inside it and just outside. */
public final class HostBoundsTest {
    private static final Due DUE = new Due("HostBoundsTest");
    private static final Refused REFUSED = new Refused(DUE);
    private static final int MIN = Integer.MIN_VALUE, MAX = Integer.MAX_VALUE;

    public static void main(String[] args) {
        sheetSheets();
        sheetSorts();
        sheetSizes();
        sheetMissing();
        sheetAnew();
        sheetAlone();
        sheetRefused();
        cellPlaces();
        cellBytes();
        cellShorts();
        cellInts();
        cellRefused();
        copyPlaces();
        copyAsTheyWere();
        copySorts();
        copyNone();
        copyRefused();
        squaresMany();
        squaresOthers();
        squaresBeyondTheRing();
        squaresFrom();
        squaresToldAhead();
        squaresRefused();
        takenKinds();
        takenRefused();
        DUE.covers(31, 35);
        DUE.end();
    }

    private static void fill(ChalkStreet x, int sheet, int... items) {
        for (int i = 0; i < items.length; i++) DUE.is("cell(" + sheet + ", " + i + ")", x.cell(sheet, i, items[i]), 1);
    }

    /** THE SET as 10 * KIND + NUMBER of each SQUARE from 0 on. */
    private static void set(String what, ChalkStreet x, int... want) {
        for (int s = 0; s < want.length; s++) {
            DUE.is(what + ": SQUARE " + s, 10 * x.squareTold(s, 0) + x.squareTold(s, 1), want[s]);
        }
    }

    /** What a SHEET of a sort has from an item on, two by two, as THE SET tells it. */
    private static void items(String what, ChalkStreet x, int sheet, int sort, int from, int... want) {
        for (int s = 0; s < want.length; s++) x.square(s, 0, 0);
        DUE.is(what + ": squares()", x.squares(sheet, sort, from, want.length), want.length);
        set(what, x, want);
    }

    // ---- 31

    private static void sheetSheets() {
        DUE.by("31: SHEETS 0 .. 3; BAD: no such SHEET");
        ChalkStreet x = Scenes.ring(4);
        for (int s = 0; s < 4; s++) {
            DUE.is("missing", x.cell(s, 0, 1), -11);
            DUE.is("sheet(" + s + ", 0, 1)", x.sheet(s, 0, 1), 1);
            DUE.is("there", x.cell(s, 0, 1), 1);
            for (int o = s + 1; o < 4; o++) DUE.is("no other one", x.cell(o, 0, 1), -11);
        }
        for (int s : new int[] {-1, 4, 5, MIN, MAX}) {
            DUE.is("sheet(" + s + ", 0, 1)", x.sheet(s, 0, 1), -2);
            DUE.is("sheet(" + s + ", -1, 0)", x.sheet(s, -1, 0), -2);
            DUE.is("sheet(" + s + ", 0, -1)", x.sheet(s, 0, -1), -2);
        }
    }

    private static void sheetSorts() {
        DUE.by("31: of sort 0 bytes, 1 shorts, 2 ints, or missing (sort -1); BAD: no such sort");
        ChalkStreet x = Scenes.ring(4);
        for (int sort = 0; sort < 3; sort++) {
            DUE.is("sheet(0, " + sort + ", 2)", x.sheet(0, sort, 2), 1);
            for (int other = 0; other < 3; other++) {
                DUE.is(sort + " for " + other, x.squares(0, other, 0, 1), other == sort ? 1 : -13);
            }
        }
        for (int sort : new int[] {-2, 3, 4, MIN, MAX}) {
            DUE.is("sheet(0, " + sort + ", 2)", x.sheet(0, sort, 2), -2);
            DUE.is("sheet(0, " + sort + ", -1)", x.sheet(0, sort, -1), -2);
        }
        DUE.is("ints still", x.squares(0, 2, 0, 1), 1);
    }

    private static void sheetSizes() {
        DUE.by("31: BAD: n above 40; -14: a size below 0");
        for (int sort = 0; sort < 3; sort++) {
            ChalkStreet x = Scenes.ring(4);
            for (int n : new int[] {0, 1, 2, 39, 40}) {
                DUE.is("sheet(0, " + sort + ", " + n + ")", x.sheet(0, sort, n), 1);
                if (n > 0) DUE.is("the first of " + n, x.cell(0, 0, 9), 1);
                if (n > 0) DUE.is("the last of " + n, x.cell(0, n - 1, 9), 1);
                DUE.is("beyond the last of " + n, x.cell(0, n, 9), -12);
            }
            for (int n : new int[] {41, 42, MAX}) DUE.is("n " + n, x.sheet(0, sort, n), -2);
            for (int n : new int[] {-1, -2, MIN}) DUE.is("n " + n, x.sheet(0, sort, n), -14);
            DUE.is("40 still", x.cell(0, 39, 9), 1);
            DUE.is("40 still", x.cell(0, 40, 9), -12);
        }
    }

    private static void sheetMissing() {
        DUE.by("31: or missing (sort -1: n does not matter)");
        for (int n : new int[] {0, 1, 40, 41, -1, MIN, MAX}) {
            ChalkStreet x = Scenes.ring(4);
            DUE.is("one that is missing", x.sheet(3, -1, n), 1);
            DUE.is("missing", x.cell(3, 0, 0), -11);
            x.sheet(3, 2, 4);
            DUE.is("one that is there", x.sheet(3, -1, n), 1);
            DUE.is("missing", x.cell(3, 0, 0), -11);
            DUE.is("missing", x.squares(3, 2, 0, 1), -11);
        }
    }

    private static void sheetAnew() {
        DUE.by("31: becomes a row of n of a sort, all 0");
        for (int sort = 0; sort < 3; sort++) {
            ChalkStreet x = Scenes.ring(10);
            x.sheet(1, sort, 40);
            for (int i = 0; i < 40; i++) x.cell(1, i, 1);
            items("all 1", x, 1, sort, 20, 11, 11, 11, 11, 11, 11, 11, 11, 11, 11);
            x.sheet(1, sort, 20);
            items("all 0", x, 1, sort, 0, 0, 0, 0, 0, 0, 0, 0, 0, 0, 0);
            x.cell(1, 19, 1);
            x.sheet(1, sort, 40);
            items("all 0 behind", x, 1, sort, 20, 0, 0, 0, 0, 0, 0, 0, 0, 0, 0);
            items("all 0 ahead", x, 1, sort, 0, 0, 0, 0, 0, 0, 0, 0, 0, 0, 0);
            DUE.is("one beside it is missing", x.cell(0, 0, 0), -11);
        }
    }

    private static void sheetAlone() {
        DUE.by("31: a SHEET becomes a row of n, no other one does");
        for (int sheet = 0; sheet < 4; sheet++) {
            for (int sort = -1; sort < 3; sort++) {
                ChalkStreet x = Scenes.ring(10);
                for (int o = 0; o < 4; o++) {
                    x.sheet(o, o % 3, 40);
                    for (int i = 0; i < 40; i++) x.cell(o, i, o + 1);
                }
                x.sheet(sheet, sort, 40);
                for (int o = 0; o < 4; o++) {
                    int both = 11 * (o + 1);
                    if (o == sheet) continue;
                    items("the first ones of " + o, x, o, o % 3, 0, both, both);
                    items("the last ones of " + o, x, o, o % 3, 36, both, both);
                }
            }
        }
    }

    private static void sheetRefused() {
        DUE.by("31: BAD; -14; refusals change nothing");
        REFUSED.ofSome("sheet(-1, 0, 1)", x -> x.sheet(-1, 0, 1), -2);
        REFUSED.ofSome("sheet(4, 0, 1)", x -> x.sheet(4, 0, 1), -2);
        REFUSED.ofSome("sheet(4, -1, 1)", x -> x.sheet(4, -1, 1), -2);
        REFUSED.ofSome("sheet(0, 3, 1)", x -> x.sheet(0, 3, 1), -2);
        REFUSED.ofSome("sheet(0, -2, 1)", x -> x.sheet(0, -2, 1), -2);
        REFUSED.ofSome("sheet(0, -2, -1)", x -> x.sheet(0, -2, -1), -2);
        REFUSED.ofSome("sheet(0, 0, 41)", x -> x.sheet(0, 0, 41), -2);
        REFUSED.ofSome("sheet(1, 1, -1)", x -> x.sheet(1, 1, -1), -14);
        REFUSED.ofSome("sheet(3, 2, MIN)", x -> x.sheet(3, 2, MIN), -14);
        REFUSED.ofSome("sheet(2, 2, MAX)", x -> x.sheet(2, 2, MAX), -2);
    }

    // ---- 32

    private static void cellPlaces() {
        DUE.by("32: -12: a place outside");
        for (int n : new int[] {1, 2, 39, 40}) {
            ChalkStreet x = Scenes.ring(4);
            for (int s = 0; s < 4; s++) x.sheet(s, s % 3, n);
            for (int s = 0; s < 4; s++) {
                DUE.is("the first", x.cell(s, 0, s), 1);
                DUE.is("the last", x.cell(s, n - 1, s), 1);
                for (int i : new int[] {-1, n, n + 1, 40, 41, MIN, MAX}) {
                    if (i != n - 1) DUE.is("cell(" + s + ", " + i + ") of " + n, x.cell(s, i, 5), i >= 0 && i < n ? 1 : -12);
                }
            }
        }
        ChalkStreet y = Scenes.ring(4);
        y.sheet(0, 0, 0);
        DUE.is("of none", y.cell(0, 0, 1), -12);
        y.sheet(0, 2, 2);
        y.sheet(1, 2, 2);
        y.sheet(2, 2, 2);
        fill(y, 1, 1, 2);
        y.cell(0, 40, 5);
        y.cell(0, 41, 5);
        y.cell(2, -40, 5);
        y.cell(2, -39, 5);
        items("one beside it is as it was", y, 1, 2, 0, 12);
    }

    private static void cellBytes() {
        DUE.by("32: item i of a SHEET becomes v (of bytes its lowest 8 bits)");
        ChalkStreet x = Scenes.ring(4);
        x.sheet(0, 0, 2);
        for (int kind = 0; kind < 256; kind++) {
            ChalkStreet y = Scenes.ring(4);
            y.sheet(0, 0, 2);
            y.cell(0, 0, 256 * (kind - 100) + kind);
            DUE.is("by the lowest 8 bits " + kind, y.squares(0, 0, 0, 1), kind < 6 ? 1 : 0);
        }
        int[] fives = {5, 256 + 5, -251, 65536 + 5, MIN + 5, MAX - 250};
        for (int v : fives) {
            x.square(0, 0, 0);
            x.cell(0, 0, v);
            DUE.is(v + " is 5", x.squares(0, 0, 0, 1), 1);
            DUE.is(v + " is 5", x.squareTold(0, 0), 5);
        }
        for (int v : new int[] {255, -1, 128, 127, 6, MAX, 262}) {
            x.cell(0, 0, v);
            DUE.is(v + " is no KIND", x.squares(0, 0, 0, 1), 0);
        }
    }

    private static void cellShorts() {
        DUE.by("32: item i of a SHEET becomes v (of shorts its lowest 16 bits)");
        ChalkStreet x = Scenes.ring(4);
        x.sheet(0, 1, 2);
        int[] nines = {9, 65536 + 9, 9 - 65536, MIN + 9, MAX - 65526, 1 << 16 | 9, 1 << 31 | 9};
        for (int v : nines) {
            x.square(0, 0, 0);
            x.cell(0, 1, v);
            DUE.is(v + " is 9", x.squares(0, 1, 0, 1), 1);
            DUE.is(v + " is 9", x.squareTold(0, 1), 9);
        }
        for (int v : new int[] {256 + 9, 1 << 15 | 9, 10, -1, 65535, 32767, MAX}) {
            x.cell(0, 1, v);
            DUE.is(v + " is no NUMBER", x.squares(0, 1, 0, 1), 0);
        }
    }

    private static void cellInts() {
        DUE.by("32: item i of a SHEET becomes v");
        ChalkStreet x = Scenes.ring(4);
        x.sheet(0, 2, 2);
        x.cell(0, 1, 9);
        DUE.is("9", x.squares(0, 2, 0, 1), 1);
        for (int bit = 4; bit < 32; bit++) {
            x.cell(0, 1, 1 << bit | 9);
            DUE.is("bit " + bit + " more", x.squares(0, 2, 0, 1), 0);
            x.cell(0, 1, 9);
            DUE.is("9 again", x.squares(0, 2, 0, 1), 1);
        }
    }

    private static void cellRefused() {
        DUE.by("32: BAD: no such SHEET; -11; -12: the first that the words name");
        REFUSED.ofSome("cell(-1, 0, 1)", x -> x.cell(-1, 0, 1), -2);
        REFUSED.ofSome("cell(4, 0, 1)", x -> x.cell(4, 0, 1), -2);
        REFUSED.ofSome("cell(4, -1, 1)", x -> x.cell(4, -1, 1), -2);
        REFUSED.ofSome("cell(3, 0, 1)", x -> x.cell(3, 0, 1), -11);
        REFUSED.ofSome("cell(3, -1, 1)", x -> x.cell(3, -1, 1), -11);
        REFUSED.ofSome("cell(3, 40, 1)", x -> x.cell(3, 40, 1), -11);
        REFUSED.ofSome("cell(0, -1, 1)", x -> x.cell(0, -1, 1), -12);
        REFUSED.ofSome("cell(0, 8, 1)", x -> x.cell(0, 8, 1), -12);
        REFUSED.ofSome("cell(0, 40, 1)", x -> x.cell(0, 40, 1), -12);
        REFUSED.ofSome("cell(1, -40, 1)", x -> x.cell(1, -40, 1), -12);
        REFUSED.ofSome("cell(2, MAX, 1)", x -> x.cell(2, MAX, 1), -12);
        REFUSED.ofSome("cell(2, MIN, 1)", x -> x.cell(2, MIN, 1), -12);
    }

    // ---- 33

    private static ChalkStreet two(int sort, int size, int other) {
        ChalkStreet x = Scenes.ring(10);
        x.sheet(0, sort, size);
        x.sheet(1, sort, other);
        for (int i = 0; i < size; i++) x.cell(0, i, i % 5 + 1);
        return x;
    }

    private static void copyPlaces() {
        DUE.by("33: n numbers of a SHEET, from item i on, come to another one's item j on: n");
        for (int sort = 0; sort < 3; sort++) {
            ChalkStreet x = two(sort, 6, 8);
            DUE.is("all", x.copy(0, 0, 1, 2, 6), 6);
            items("behind two", x, 1, sort, 0, 0, 12, 34, 51);
            DUE.is("the last two", x.copy(0, 4, 1, 0, 2), 2);
            items("the last two", x, 1, sort, 0, 51, 12, 34, 51);
            DUE.is("the first one", x.copy(0, 0, 1, 7, 1), 1);
            items("to the last place", x, 1, sort, 0, 51, 12, 34, 51);
            DUE.is("another one", x.copy(0, 3, 1, 7, 1), 1);
            items("to the last place", x, 1, sort, 0, 51, 12, 34, 54);
            int[][] outside = {{0, 0, 7}, {1, 0, 6}, {5, 0, 2}, {6, 0, 1}, {0, 3, 6}, {0, 7, 2}, {0, 8, 1}, {-1, 0, 1},
                {0, -1, 1}, {-1, -1, 8}, {0, 0, -1}, {6, 8, -1}, {MIN, 0, 1}, {0, MIN, 1}, {MAX, 0, 1}, {0, MAX, 1},
                {0, 0, MAX}, {0, 0, MIN}, {1, 1, MAX}, {5, 7, MAX}, {MAX, MAX, MAX}, {MIN, MIN, MIN}, {MAX, 0, MIN}};
            for (int[] o : outside) DUE.is("copy(" + o[0] + ", " + o[1] + ", " + o[2] + ")", x.copy(0, o[0], 1, o[1], o[2]), -12);
            items("as it was", x, 1, sort, 0, 51, 12, 34, 54);
        }
        ChalkStreet y = two(2, 40, 40);
        DUE.is("forty", y.copy(0, 0, 1, 0, 40), 40);
        DUE.is("forty-one", y.copy(0, 0, 1, 0, 41), -12);
        items("the last of forty", y, 1, 2, 36, 23, 45);
        DUE.is("that from which they come is as it was", y.copy(1, 0, 0, 0, 40), 40);
        items("the last of forty", y, 0, 2, 36, 23, 45);
    }

    private static void copyAsTheyWere() {
        DUE.by("33: (as they were)");
        for (int sort = 0; sort < 3; sort++) {
            for (int by = 1; by < 6; by++) {
                ChalkStreet x = two(sort, 6, 6);
                DUE.is("further on by " + by, x.copy(0, 0, 0, by, 6 - by), 6 - by);
                int[] at = new int[6];
                for (int i = 0; i < 6; i++) at[i] = i < by ? i % 5 + 1 : (i - by) % 5 + 1;
                items("further on by " + by, x, 0, sort, 0, 10 * at[0] + at[1], 10 * at[2] + at[3], 10 * at[4] + at[5]);
                ChalkStreet y = two(sort, 6, 6);
                DUE.is("further back by " + by, y.copy(0, by, 0, 0, 6 - by), 6 - by);
                for (int i = 0; i < 6; i++) at[i] = i + by < 6 ? (i + by) % 5 + 1 : i % 5 + 1;
                items("further back by " + by, y, 0, sort, 0, 10 * at[0] + at[1], 10 * at[2] + at[3], 10 * at[4] + at[5]);
                DUE.is("to where it is", y.copy(0, 0, 0, 0, 6), 6);
                items("to where it is", y, 0, sort, 0, 10 * at[0] + at[1], 10 * at[2] + at[3], 10 * at[4] + at[5]);
            }
        }
    }

    private static void copySorts() {
        DUE.by("33: -13: they are of unlike sorts");
        for (int sort = 0; sort < 3; sort++) {
            for (int other = 0; other < 3; other++) {
                ChalkStreet x = Scenes.ring(4);
                x.sheet(2, sort, 4);
                x.sheet(3, other, 4);
                DUE.is(sort + " and " + other, x.copy(2, 0, 3, 0, 4), sort == other ? 4 : -13);
                DUE.is(sort + " and " + other + " of none", x.copy(2, 0, 3, 0, 0), sort == other ? 0 : -13);
                DUE.is(sort + " and " + other + " outside", x.copy(2, 0, 3, 0, 5), sort == other ? -12 : -13);
            }
        }
    }

    private static void copyNone() {
        DUE.by("33: -12 (also with n below 0); none at all at each place");
        ChalkStreet x = two(0, 6, 8);
        DUE.is("none of the first", x.copy(0, 0, 1, 0, 0), 0);
        DUE.is("none behind the last", x.copy(0, 6, 1, 8, 0), 0);
        DUE.is("none further on", x.copy(0, 7, 1, 0, 0), -12);
        DUE.is("none further on", x.copy(0, 0, 1, 9, 0), -12);
        DUE.is("none ahead", x.copy(0, -1, 1, 0, 0), -12);
        DUE.is("none ahead", x.copy(0, 0, 1, -1, 0), -12);
        DUE.is("below none", x.copy(0, 0, 1, 0, -1), -12);
        DUE.is("below none", x.copy(0, 1, 1, 1, -1), -12);
        x.sheet(0, 0, 0);
        DUE.is("none of none", x.copy(0, 0, 1, 0, 0), 0);
        DUE.is("one of none", x.copy(0, 0, 1, 0, 1), -12);
    }

    private static void copyRefused() {
        DUE.by("33: BAD: no such SHEET; -11; -13; -12: the first that the words name");
        REFUSED.ofSome("copy(-1, 0, 0, 0, 1)", x -> x.copy(-1, 0, 0, 0, 1), -2);
        REFUSED.ofSome("copy(0, 0, 4, 0, 1)", x -> x.copy(0, 0, 4, 0, 1), -2);
        REFUSED.ofSome("copy(3, 0, 4, -1, -1), BAD ahead of -11", x -> x.copy(3, 0, 4, -1, -1), -2);
        REFUSED.ofSome("copy(-1, 0, 3, 0, 1), BAD ahead of -11", x -> x.copy(-1, 0, 3, 0, 1), -2);
        REFUSED.ofSome("copy(3, 0, 0, 0, 1)", x -> x.copy(3, 0, 0, 0, 1), -11);
        REFUSED.ofSome("copy(0, 0, 3, 0, 1)", x -> x.copy(0, 0, 3, 0, 1), -11);
        REFUSED.ofSome("copy(3, 0, 3, 0, 0)", x -> x.copy(3, 0, 3, 0, 0), -11);
        REFUSED.ofSome("copy(0, 9, 3, 9, -1), -11 ahead of -12", x -> x.copy(0, 9, 3, 9, -1), -11);
        REFUSED.ofSome("copy(0, 0, 1, 0, 1)", x -> x.copy(0, 0, 1, 0, 1), -13);
        REFUSED.ofSome("copy(2, 0, 1, 0, 0)", x -> x.copy(2, 0, 1, 0, 0), -13);
        REFUSED.ofSome("copy(0, 0, 1, 0, -1), -13 ahead of -12", x -> x.copy(0, 0, 1, 0, -1), -13);
        REFUSED.ofSome("copy(0, 0, 0, 1, 8)", x -> x.copy(0, 0, 0, 1, 8), -12);
        REFUSED.ofSome("copy(0, 1, 0, 0, 8)", x -> x.copy(0, 1, 0, 0, 8), -12);
        REFUSED.ofSome("copy(0, 0, 0, 1, -1)", x -> x.copy(0, 0, 0, 1, -1), -12);
        REFUSED.ofSome("copy(1, 0, 1, -1, 3)", x -> x.copy(1, 0, 1, -1, 3), -12);
        REFUSED.ofSome("copy(2, -1, 2, 0, 3)", x -> x.copy(2, -1, 2, 0, 3), -12);
    }

    // ---- 34

    private static void squaresMany() {
        DUE.by("34: n of them (0 .. 10): how many were told; BAD: n");
        ChalkStreet x = Scenes.ring(10);
        x.sheet(0, 2, 20);
        for (int i = 0; i < 20; i++) x.cell(0, i, i % 2 == 0 ? 5 : 9);
        for (int n = 0; n <= 10; n++) {
            for (int s = 0; s < 10; s++) x.square(s, 1, 1);
            DUE.is("squares of " + n, x.squares(0, 2, 0, n), n);
            for (int s = n > 0 ? n - 1 : 0; s <= n && s < 10; s++) {
                DUE.is("SQUARE " + s, 10 * x.squareTold(s, 0) + x.squareTold(s, 1), s < n ? 59 : 11);
            }
        }
        for (int n : new int[] {-1, 11, 12, MIN, MAX}) DUE.is("n " + n, x.squares(0, 2, 0, n), -2);
        ChalkStreet y = Scenes.ring(4);
        y.sheet(0, 2, 40);
        DUE.is("ten of four", y.squares(0, 2, 0, 10), 4);
        DUE.is("eleven of four", y.squares(0, 2, 0, 11), -2);
    }

    private static void squaresOthers() {
        DUE.by("34: others are left as they are");
        int[][] items = {{-1, 0}, {0, -1}, {6, 0}, {0, 10}, {6, 10}, {MIN, 0}, {0, MAX}, {MAX, MIN}, {5, 10}, {6, 9}};
        for (int[] item : items) {
            ChalkStreet x = Scenes.ring(10);
            x.square(0, 4, 4);
            x.square(2, 3, 3);
            x.sheet(0, 2, 6);
            fill(x, 0, item[0], item[1], 5, 9, item[0], item[1]);
            DUE.is("one of three", x.squares(0, 2, 0, 3), 1);
            set("others", x, 44, 59, 33);
        }
        int[][] good = {{0, 0}, {5, 9}, {0, 9}, {5, 0}};
        for (int[] item : good) {
            ChalkStreet x = Scenes.ring(10);
            x.square(0, 4, 4);
            x.sheet(0, 2, 2);
            fill(x, 0, item[0], item[1]);
            DUE.is("one of one", x.squares(0, 2, 0, 1), 1);
            set("told", x, 10 * item[0] + item[1]);
        }
    }

    private static void squaresBeyondTheRing() {
        DUE.by("34: those beyond the ring too");
        for (int n = 4; n <= 10; n++) {
            ChalkStreet x = Scenes.ring(n);
            x.sheet(3, 1, 40);
            for (int i = 0; i < 40; i++) x.cell(3, i, 2);
            DUE.is("ten of " + n, x.squares(3, 1, 20, 10), n);
            DUE.is("the last of " + n, x.squareTold(n - 1, 0), 2);
            DUE.is("none more than " + n, x.squareTold(n, 0), -2);
            DUE.is("all of " + n, x.squares(3, 1, 0, n), n);
            if (n < 10) DUE.is("one more than " + n, x.squares(3, 1, 0, n + 1), n);
        }
    }

    private static void squaresFrom() {
        DUE.by("34: from one on, two by two; -12: a place outside");
        ChalkStreet x = Scenes.ring(10);
        x.sheet(0, 0, 20);
        for (int i = 0; i < 20; i++) x.cell(0, i, i % 5 + 1);
        DUE.is("all", x.squares(0, 0, 0, 10), 10);
        set("all", x, 12, 34, 51, 23, 45, 12, 34, 51, 23, 45);
        DUE.is("the last two by one", x.squares(0, 0, 18, 1), 1);
        set("the last two", x, 45, 34);
        DUE.is("by an odd one", x.squares(0, 0, 17, 1), 1);
        set("by an odd one", x, 34, 34);
        DUE.is("half outside", x.squares(0, 0, 19, 1), -12);
        DUE.is("outside", x.squares(0, 0, 20, 1), -12);
        DUE.is("ahead", x.squares(0, 0, -1, 1), -12);
        DUE.is("far ahead", x.squares(0, 0, -2, 10), -12);
        for (int from : new int[] {MIN, MIN + 1, MAX, MAX - 1, MAX - 19}) {
            DUE.is("from " + from, x.squares(0, 0, from, 10), -12);
        }
        set("as they were", x, 34, 34);
        for (int from : new int[] {0, 20, 21, -1, MIN, MAX}) DUE.is("none from " + from, x.squares(0, 0, from, 0), 0);
    }

    private static void squaresToldAhead() {
        DUE.by("34: -12: what stood ahead was told");
        for (int size = 0; size <= 8; size++) {
            ChalkStreet x = Scenes.ring(10);
            for (int s = 0; s < 10; s++) x.square(s, 4, 4);
            x.sheet(2, 1, size);
            for (int i = 0; i < size; i++) x.cell(2, i, 1);
            DUE.is("five of " + size, x.squares(2, 1, 0, 5), -12);
            for (int s = 0; s < 5; s++) {
                DUE.is("SQUARE " + s + " of " + size, x.squareTold(s, 0), 2 * s + 1 < size ? 1 : 4);
                DUE.is("SQUARE " + s + " of " + size, x.squareTold(s, 1), 2 * s + 1 < size ? 1 : 4);
            }
        }
    }

    private static void squaresRefused() {
        DUE.by("34: BAD: no such SHEET, sort, n; -13; -11; -12: the first that the words name");
        REFUSED.ofSome("squares(-1, 0, 0, 1)", x -> x.squares(-1, 0, 0, 1), -2);
        REFUSED.ofSome("squares(4, 0, 0, 1)", x -> x.squares(4, 0, 0, 1), -2);
        REFUSED.ofSome("squares(0, -1, 0, 1)", x -> x.squares(0, -1, 0, 1), -2);
        REFUSED.ofSome("squares(0, 3, 0, 1)", x -> x.squares(0, 3, 0, 1), -2);
        REFUSED.ofSome("squares(0, 0, 0, -1)", x -> x.squares(0, 0, 0, -1), -2);
        REFUSED.ofSome("squares(0, 0, 0, 11)", x -> x.squares(0, 0, 0, 11), -2);
        REFUSED.ofSome("squares(0, 1, 0, 11), BAD ahead of -13", x -> x.squares(0, 1, 0, 11), -2);
        REFUSED.ofSome("squares(3, 1, 0, 11), BAD ahead of -11", x -> x.squares(3, 1, 0, 11), -2);
        REFUSED.ofSome("squares(0, 1, 0, 1)", x -> x.squares(0, 1, 0, 1), -13);
        REFUSED.ofSome("squares(1, 0, 0, 0)", x -> x.squares(1, 0, 0, 0), -13);
        REFUSED.ofSome("squares(2, 0, -1, 1), -13 ahead of -12", x -> x.squares(2, 0, -1, 1), -13);
        REFUSED.ofSome("squares(3, 0, 0, 1)", x -> x.squares(3, 0, 0, 1), -11);
        REFUSED.ofSome("squares(3, 2, -1, 0), -11 ahead of -12", x -> x.squares(3, 2, -1, 0), -11);
        REFUSED.ofSome("squares(0, 0, -1, 3)", x -> x.squares(0, 0, -1, 3), -12);
        REFUSED.ofSome("squares(0, 0, 7, 1)", x -> x.squares(0, 0, 7, 1), -12);
        REFUSED.ofSome("squares(0, 0, MAX, 10)", x -> x.squares(0, 0, MAX, 10), -12);
        REFUSED.ofSome("squares(0, 0, MIN, 10)", x -> x.squares(0, 0, MIN, 10), -12);
        REFUSED.ofSome("squares(0, 0, -1, 0)", x -> x.squares(0, 0, -1, 0), 0);
        REFUSED.ofFull("squares(0, 0, 0, 1)", x -> x.squares(0, 0, 0, 1), -11);
    }

    // ---- 35

    private static void takenKinds() {
        DUE.by("35: taken for one of KIND k (0 .. 5), or one under that one (also by others between): its NUMBER");
        int[][] under = {{0}, {0, 1}, {0, 2}, {0, 3}, {0, 1, 4}, {0, 3, 5}};
        for (int n = 4; n <= 10; n++) {
            ChalkStreet x = Scenes.ring(n);
            for (int kind = 0; kind < 6; kind++) {
                x.square(0, kind, kind);
                x.square(n - 1, kind, 9);
                for (int k = 0; k < 6; k++) {
                    boolean is = false;
                    for (int u : under[kind]) is |= u == k;
                    DUE.is("the first: " + kind + " for " + k, x.taken(0, k), is ? kind : -13);
                    DUE.is("the last: " + kind + " for " + k, x.taken(n - 1, k), is ? 9 : -13);
                }
            }
        }
    }

    private static void takenRefused() {
        DUE.by("35: BAD: k; -11: no such SQUARE; -13: the first that the words name");
        REFUSED.ofSome("taken(2, -1)", x -> x.taken(2, -1), -2);
        REFUSED.ofSome("taken(4, 6)", x -> x.taken(4, 6), -2);
        REFUSED.ofSome("taken(-1, 6), BAD ahead of -11", x -> x.taken(-1, 6), -2);
        REFUSED.ofSome("taken(n, -1), BAD ahead of -11", x -> x.taken(x.count(0), -1), -2);
        REFUSED.ofSome("taken(-1, 0)", x -> x.taken(-1, 0), -11);
        REFUSED.ofSome("taken(n, 5)", x -> x.taken(x.count(0), 5), -11);
        REFUSED.ofSome("taken(MIN, 0)", x -> x.taken(MIN, 0), -11);
        REFUSED.ofSome("taken(MAX, 0)", x -> x.taken(MAX, 0), -11);
        REFUSED.ofSome("taken(1, 5)", x -> x.taken(1, 5), -13);
        REFUSED.ofSome("taken(2, 3)", x -> x.taken(2, 3), -13);
    }
}
