import java.nio.charset.StandardCharsets;

/** Objects of which something is told already, for calls that are refused. */
final class Scenes {
    private Scenes() {
    }

    /** A ring of so many squares, new. */
    static ChalkStreet ring(int squares) {
        return new ChalkStreet(squares - 4);
    }

    static void write(ChalkStreet x, String text) {
        byte[] signs = text.getBytes(StandardCharsets.ISO_8859_1);
        for (int from = 0; from < signs.length; from += 8) {
            int n = Math.min(8, signs.length - from);
            long bytes = 0;
            for (int i = 0; i < n; i++) bytes |= (signs[from + i] & 255L) << 8 * i;
            x.feed(n, bytes);
        }
    }

    static int read(ChalkStreet x, String text) {
        write(x, text);
        return x.text();
    }

    /** Something of each sort, and room for more: six SQUARES, three TELLINGS, two TEXTS, three SHEETS. */
    static ChalkStreet some() {
        ChalkStreet x = new ChalkStreet(2);
        x.steps(5);
        x.square(1, 3, 2);
        x.square(2, 1, 4);
        x.square(4, 4, 9);
        x.square(5, 5, 2);
        x.telling(10, 1);
        x.square(2, 2, 3);
        x.telling(20, 2);
        x.steps(3);
        x.square(3, 5, 1);
        x.telling(15, 1);
        x.gap(0, 2);
        x.gap(1, 3);
        x.gap(1, 5);
        read(x, "take own+won*year;keep lost<9;");
        x.force(1);
        x.street(0, 0);
        x.street(3, 1);
        x.street(7, 2);
        x.years(2);
        x.game(0, 1, 5, 1);
        x.game(2, 1, 7, 22);
        sheets(x);
        write(x, "take 5;k");
        return x;
    }

    private static void sheets(ChalkStreet x) {
        int[] sizes = {8, 6, 4};
        for (int sheet = 0; sheet < 3; sheet++) {
            x.sheet(sheet, sheet, sizes[sheet]);
            for (int i = 0; i < sizes[sheet]; i++) x.cell(sheet, i, (i + sheet) % 5 + 1);
        }
    }

    /** No room for more: twelve TELLINGS, six TEXTS, a TAPE of 160 bytes, the YEAR 999; player 0 has no MARBLES. */
    static ChalkStreet full() {
        ChalkStreet x = new ChalkStreet(0);
        x.square(1, 3, 0);
        for (int i = 0; i < 12; i++) {
            x.square(2, i % 6, i % 10);
            x.telling(80 * i, i % 10);
        }
        x.gap(11, 2);
        for (int i = 1; i < 6; i++) read(x, "take own;keep " + i + ";");
        x.force(5);
        for (int i = 0; i < 33; i++) x.years(30);
        x.years(9);
        for (int s = 0; s < 8; s++) x.street(s, s);
        x.game(1, 0, 9, 1);
        x.game(2, 0, 9, 1);
        x.game(3, 0, 9, 1);
        for (int i = 0; i < 20; i++) x.feed(8, 0x3120656b61742020L);
        return x;
    }
}
