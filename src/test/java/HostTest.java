/** Promises 31 to 35: the host's SHEETS and KINDS under others. */
public final class HostTest {
    private static final Due DUE = new Due("HostTest");

    public static void main(String[] args) {
        sheet();
        cell();
        copy();
        copyOver();
        squares();
        squaresOutside();
        taken();
        DUE.end();
    }

    /** What a sheet has from an item on, as it is told to a SET of ten: 10 * KIND + NUMBER of each square. */
    private static int[] told(ChalkStreet x, int n) {
        int[] told = new int[n];
        for (int s = 0; s < n; s++) told[s] = 10 * x.squareTold(s, 0) + x.squareTold(s, 1);
        return told;
    }

    private static void are(String what, int[] got, int... want) {
        DUE.is(what + " how many", got.length, want.length);
        for (int i = 0; i < want.length && i < got.length; i++) DUE.is(what + " " + i, got[i], want[i]);
    }

    private static void fill(ChalkStreet x, int sheet, int... items) {
        for (int i = 0; i < items.length; i++) x.cell(sheet, i, items[i]);
    }

    private static void sheet() {
        ChalkStreet x = new ChalkStreet(0);
        int[][] good = {{0, 0, 0}, {3, 2, 40}, {1, 1, 1}, {2, -1, 0}, {2, -1, 99}, {2, -1, -99}};
        for (int[] g : good) DUE.is("31 good", x.sheet(g[0], g[1], g[2]), 1);
        int[][] bad = {{-1, 0, 1}, {4, 0, 1}, {0, 3, 1}, {0, -2, 1}, {0, 0, 41}, {0, 3, -1}, {4, 0, -1}, {4, -1, 0},
            {0, 0, Integer.MAX_VALUE}};
        for (int[] b : bad) DUE.is("31 bad", x.sheet(b[0], b[1], b[2]), -2);
        DUE.is("31 below 0", x.sheet(3, 0, -1), -14);
        DUE.is("31 below 0", x.sheet(3, 2, Integer.MIN_VALUE), -14);
        DUE.is("31 unchanged", x.cell(3, 39, 1), 1);
        DUE.is("31 an empty one is there", x.cell(0, 0, 1), -12);
        DUE.is("31 missing", x.cell(2, 0, 1), -11);
        fill(x, 3, 5, 5, 5, 5);
        x.sheet(3, 2, 4);
        DUE.is("31 made anew", x.squares(3, 2, 0, 2), 2);
        are("31 all 0", told(x, 2), 0, 0);
        x.sheet(3, -1, 0);
        DUE.is("31 missing again", x.cell(3, 0, 0), -11);
    }

    private static void cell() {
        ChalkStreet x = new ChalkStreet(0);
        for (int sort = 0; sort < 3; sort++) x.sheet(sort, sort, 4);
        for (int sort = 0; sort < 3; sort++) {
            fill(x, sort, 0x101, 0x10002, -256 + 3, 0xffff0004);
            DUE.is("32 told", x.squares(sort, sort, 0, 2), sort == 0 ? 2 : 0);
        }
        are("32 the lowest 8 bits", told(x, 2), 12, 34);
        x.square(0, 0, 0);
        fill(x, 1, 0x10001, 0x50002);
        DUE.is("32 the lowest 16 bits", x.squares(1, 1, 0, 1), 1);
        are("32 the lowest 16 bits", told(x, 1), 12);
        fill(x, 2, 0x10001, 0x50002);
        DUE.is("32 all bits", x.squares(2, 2, 0, 1), 0);
        DUE.is("32 the first", x.cell(0, 0, 1), 1);
        DUE.is("32 the last", x.cell(0, 3, 1), 1);
        DUE.is("32 beyond", x.cell(0, 4, 1), -12);
        DUE.is("32 ahead", x.cell(0, -1, 1), -12);
        DUE.is("32 far beyond", x.cell(0, Integer.MAX_VALUE, 1), -12);
        DUE.is("32 missing", x.cell(3, -1, 1), -11);
        DUE.is("32 no sheet", x.cell(4, 0, 1), -2);
        DUE.is("32 no sheet", x.cell(-1, 9, 1), -2);
    }

    private static void copy() {
        ChalkStreet x = new ChalkStreet(0);
        x.sheet(0, 0, 4);
        x.sheet(1, 0, 6);
        x.sheet(2, 1, 4);
        fill(x, 0, 1, 2, 3, 4);
        DUE.is("33 all", x.copy(0, 0, 1, 2, 4), 4);
        x.squares(1, 0, 2, 2);
        are("33 come", told(x, 2), 12, 34);
        DUE.is("33 some", x.copy(0, 2, 1, 0, 2), 2);
        x.squares(1, 0, 0, 3);
        are("33 come", told(x, 3), 34, 12, 34);
        DUE.is("33 none at the end", x.copy(0, 4, 1, 6, 0), 0);
        int[][] outside = {{0, 0, 1, 0, 5}, {0, 1, 1, 0, 4}, {0, 0, 1, 3, 4}, {0, -1, 1, 0, 1}, {0, 0, 1, -1, 1},
            {0, 0, 1, 0, -1}, {0, 5, 1, 0, 0}, {0, 0, 1, 7, 0}, {0, Integer.MAX_VALUE, 1, 0, 1},
            {0, 1, 1, 1, Integer.MAX_VALUE}, {0, 0, 1, 0, Integer.MIN_VALUE}, {0, Integer.MIN_VALUE, 1, 0, 1}};
        for (int[] o : outside) DUE.is("33 outside", x.copy(o[0], o[1], o[2], o[3], o[4]), -12);
        DUE.is("33 unlike sorts", x.copy(0, 0, 2, 0, -1), -13);
        DUE.is("33 missing", x.copy(0, 0, 3, 0, -1), -11);
        DUE.is("33 missing", x.copy(3, 0, 2, 0, 1), -11);
        DUE.is("33 no sheet", x.copy(3, 0, 4, 0, 1), -2);
        DUE.is("33 no sheet", x.copy(-1, 0, 0, 0, 1), -2);
        x.squares(1, 0, 0, 3);
        are("33 unchanged", told(x, 3), 34, 12, 34);
    }

    private static void copyOver() {
        ChalkStreet x = new ChalkStreet(0);
        x.sheet(0, 2, 6);
        fill(x, 0, 1, 2, 3, 4, 5, 6);
        DUE.is("33 onto itself, further on", x.copy(0, 0, 0, 1, 5), 5);
        x.squares(0, 2, 0, 3);
        are("33 as they were", told(x, 3), 11, 23, 45);
        fill(x, 0, 1, 2, 3, 4, 5, 6);
        DUE.is("33 onto itself, further back", x.copy(0, 1, 0, 0, 5), 5);
        x.squares(0, 2, 0, 3);
        are("33 as they were", told(x, 3), 23, 45, 56 - 56 + 45);
    }

    private static void squares() {
        ChalkStreet x = new ChalkStreet(0);
        x.sheet(0, 0, 20);
        fill(x, 0, 5, 9, 6, 0, -1, 0, 0, 10, 1, 1);
        x.square(1, 2, 2);
        x.square(2, 3, 3);
        x.square(3, 4, 4);
        DUE.is("34 one of four", x.squares(0, 0, 0, 4), 1);
        are("34 others as they are", told(x, 4), 59, 22, 33, 44);
        DUE.is("34 beyond the ring", x.squares(0, 0, 8, 6), 4);
        are("34 beyond the ring", told(x, 4), 11, 0, 0, 0);
        DUE.is("34 ten", x.squares(0, 0, 0, 10), 1);
        DUE.is("34 none", x.squares(0, 0, 20, 0), 0);
        int[][] bad = {{-1, 0, 0, 1}, {4, 0, 0, 1}, {0, -1, 0, 1}, {0, 3, 0, 1}, {0, 0, 0, -1}, {0, 0, 0, 11}};
        for (int[] b : bad) DUE.is("34 bad", x.squares(b[0], b[1], b[2], b[3]), -2);
        DUE.is("34 another sort", x.squares(0, 1, 0, 1), -13);
        DUE.is("34 another sort", x.squares(0, 2, -1, 1), -13);
        DUE.is("34 missing", x.squares(1, 2, -1, 1), -11);
        DUE.is("34 missing", x.squares(1, 0, 0, 0), -11);
        ChalkStreet y = new ChalkStreet(6);
        y.sheet(2, 2, 20);
        y.cell(2, 19, 7);
        DUE.is("34 all ten", y.squares(2, 2, 0, 10), 10);
        DUE.is("34 the last", y.squareTold(9, 1), 7);
    }

    private static void squaresOutside() {
        ChalkStreet x = new ChalkStreet(0);
        x.sheet(0, 0, 5);
        fill(x, 0, 1, 1, 2, 2, 3);
        DUE.is("34 half outside", x.squares(0, 0, 0, 3), -12);
        are("34 what stood ahead was told", told(x, 4), 11, 22, 0, 0);
        DUE.is("34 from the second on", x.squares(0, 0, 1, 4), -12);
        are("34 what stood ahead was told", told(x, 4), 12, 23, 0, 0);
        DUE.is("34 ahead of it", x.squares(0, 0, -1, 3), -12);
        DUE.is("34 far outside", x.squares(0, 0, Integer.MAX_VALUE, 3), -12);
        DUE.is("34 far outside", x.squares(0, 0, Integer.MIN_VALUE, 3), -12);
        are("34 nothing told", told(x, 4), 12, 23, 0, 0);
        x.sheet(0, 0, 8);
        fill(x, 0, 1, 1, 1, 1, 1, 1, 1, 1);
        DUE.is("34 outside, beyond the ring", x.squares(0, 0, 0, 5), -12);
        are("34 the ring was told", told(x, 4), 11, 11, 11, 11);
    }

    private static void taken() {
        ChalkStreet x = new ChalkStreet(2);
        for (int kind = 0; kind < 6; kind++) x.square(kind, kind, kind + 1);
        int[] upper = {0, 0, 0, 0, 1, 3};
        for (int kind = 0; kind < 6; kind++) {
            for (int k = 0; k < 6; k++) {
                boolean under = k == kind || k == upper[kind] || k == 0;
                DUE.is("35 taken(" + kind + ", " + k + ")", x.taken(kind, k), under ? kind + 1 : -13);
            }
        }
        DUE.is("35 k", x.taken(0, 6), -2);
        DUE.is("35 k", x.taken(9, -1), -2);
        DUE.is("35 no square", x.taken(6, 0), -11);
        DUE.is("35 no square", x.taken(-1, 5), -11);
    }
}
