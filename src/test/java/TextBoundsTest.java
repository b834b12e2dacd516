/** Promises 21 and 22: each sentence that names a bound of THE TAPE or of a TEXT, just inside it and just outside. */
public final class TextBoundsTest {
    private static final Due DUE = new Due("TextBoundsTest");
    private static final Refused REFUSED = new Refused(DUE);
    private static final int MIN = Integer.MIN_VALUE, MAX = Integer.MAX_VALUE;

    public static void main(String[] args) {
        feedHowMany();
        feedLowestFirst();
        feedTillFull();
        feedRefused();
        textOfNothing();
        textOfAllBytes();
        textSix();
        textEmptyThen();
        textRefused();
        tokensAsLongAsCanBe();
        words();
        numbers();
        signs();
        blanks();
        noneOfAll();
        fiveOpen();
        openTill();
        mixedOpen();
        manyAtOnce();
        tooEarly();
        notBehindIt();
        firstOfMany();
        DUE.covers(21, 22);
        DUE.end();
    }

    private static String times(String part, int many) {
        StringBuilder all = new StringBuilder();
        for (int i = 0; i < many; i++) all.append(part);
        return all.toString();
    }

    /** A whole TEXT is read as TEXT 1, and its take comes to this. */
    private static void comesTo(String text, int want) {
        ChalkStreet x = new ChalkStreet(0);
        x.telling(0, 0);
        DUE.is(text, Scenes.read(x, text), 1);
        x.force(1);
        DUE.is("take of " + text, x.says(0, 0), want);
        DUE.is("none on THE TAPE after " + text, x.count(4), 0);
    }

    /** The FAULT's place is told, the TAPE is empty and there is no TEXT more. */
    private static void fault(String text, int place) {
        ChalkStreet x = new ChalkStreet(0);
        DUE.is("the fault of " + text, Scenes.read(x, text), -100 - place);
        DUE.is("none on THE TAPE after " + text, x.count(4), 0);
        DUE.is("TEXTS after " + text, x.count(3), 1);
        DUE.is("THE RULE after " + text, x.count(5), 0);
        DUE.is("a TEXT after " + text, Scenes.read(x, "take 1;keep 1;"), 1);
    }

    // ---- 21

    private static void feedHowMany() {
        DUE.by("21: BAD: n is not 1 .. 8");
        ChalkStreet x = new ChalkStreet(0);
        int bytes = 0;
        for (int n = 1; n <= 8; n++) {
            bytes += n;
            DUE.is("feed(" + n + ")", x.feed(n, -1), bytes);
            DUE.is("count(4)", x.count(4), bytes);
        }
        for (int n : new int[] {0, -1, 9, 10, MIN, MAX}) DUE.is("feed(" + n + ")", x.feed(n, 0), -2);
        DUE.is("as many as there were", x.count(4), bytes);
    }

    private static void feedLowestFirst() {
        DUE.by("21: the n lowest bytes of a number, the lowest first, come behind THE TAPE");
        String text = "take 1;keep 12;";
        for (int n = 1; n <= 8; n++) {
            ChalkStreet x = new ChalkStreet(0);
            for (int from = 0; from < text.length(); from += n) {
                int many = Math.min(n, text.length() - from);
                // What stands above the lowest ones must not matter.
                long bytes = -1;
                for (int i = many - 1; i >= 0; i--) bytes = bytes << 8 | text.charAt(from + i);
                DUE.is("feed(" + many + ")", x.feed(many, bytes), from + many);
            }
            DUE.is("by " + n, x.text(), 1);
        }
        ChalkStreet y = new ChalkStreet(0);
        Scenes.write(y, "take 1;keep 1;");
        y.feed(1, 0x80);
        DUE.is("a byte above 127", y.text(), -114);
        Scenes.write(y, "take 1;keep 1;");
        y.feed(1, 0x120);
        DUE.is("a byte by its lowest 8 bits", y.text(), 1);
    }

    private static void feedTillFull() {
        DUE.by("21: THE TAPE (160 bytes at most); FULL");
        for (int n = 1; n <= 8; n++) {
            ChalkStreet x = new ChalkStreet(0);
            int bytes = 0;
            while (bytes + n <= 160) {
                bytes += n;
                DUE.is("feed(" + n + ")", x.feed(n, 0), bytes);
            }
            DUE.is("feed(" + n + ") beyond " + bytes, x.feed(n, 0), -4);
            DUE.is("none of them", x.count(4), bytes);
            if (bytes < 160) DUE.is("as many as have room", x.feed(160 - bytes, 0), 160);
            DUE.is("one more", x.feed(1, 0), -4);
            DUE.is("BAD ahead of FULL", x.feed(0, 0), -2);
            DUE.is("BAD ahead of FULL", x.feed(9, 0), -2);
            DUE.is("160", x.count(4), 160);
        }
    }

    private static void feedRefused() {
        DUE.by("21: BAD; FULL; refusals change nothing");
        REFUSED.ofSome("feed(0, 0)", x -> x.feed(0, 0x61), -2);
        REFUSED.ofSome("feed(9, 0)", x -> x.feed(9, 0x61), -2);
        REFUSED.ofSome("feed(-1, 0)", x -> x.feed(-1, 0x61), -2);
        REFUSED.ofFull("feed(1, 0)", x -> x.feed(1, 0), -4);
        REFUSED.ofFull("feed(8, 0)", x -> x.feed(8, 0), -4);
        REFUSED.ofFull("feed(9, 0)", x -> x.feed(9, 0), -2);
        ChalkStreet x = new ChalkStreet(0);
        Scenes.write(x, "take 1" + times("+1", 72) + ";keep 1;");
        x.feed(8, -1);
        DUE.is("158 bytes", x.count(4), 158);
        DUE.is("three more", x.feed(3, 0x202020), -4);
        DUE.is("two more", x.feed(2, 0x2020), 160);
        DUE.is("what was there is as it was", x.text(), 1);
    }

    // ---- 22

    private static void textOfNothing() {
        DUE.by("22: FAULT: the text's size, if it ends too early");
        fault("", 0);
        fault(" ", 1);
        fault(times("\n", 159), 159);
        fault(times(" ", 160), 160);
    }

    private static void textOfAllBytes() {
        DUE.by("22: THE TAPE (160 bytes at most) is a TEXT");
        comesTo("take 1" + times("+1", 73) + ";keep 1;", 74);
        fault("take 1" + times("+1", 73) + ";keep 1 ", 160);
        fault("take 1" + times("+1", 73) + ";keep 1#", 159);
        comesTo("take -" + times("1", 4) + times("\n", 141) + ";keep 12;", -1111);
        fault("take " + times("(", 155), 10);
        fault(times("a", 160), 0);
        fault("take " + times("1", 155), 5);
        fault("take 1;keep 1;" + times(" ", 145) + ";", 159);
        comesTo("take 1;keep 1;" + times(" ", 146), 1);
    }

    private static void textSix() {
        DUE.by("22: its number; FULL (ahead of all): no TEXT more has room (THE TAPE stays)");
        ChalkStreet x = new ChalkStreet(0);
        for (int i = 1; i < 6; i++) {
            DUE.is("TEXT " + i, Scenes.read(x, "take " + i + ";keep 1;"), i);
            DUE.is("count(3)", x.count(3), i + 1);
            if (i < 5) DUE.is("a fault is none", Scenes.read(x, "keep"), -100);
            DUE.is("count(3)", x.count(3), i + 1);
        }
        DUE.is("an empty TAPE", x.text(), -4);
        Scenes.write(x, "keep");
        DUE.is("ahead of a FAULT", x.text(), -4);
        DUE.is("THE TAPE stays", x.count(4), 4);
        DUE.is("and goes on", x.feed(1, 0), 5);
        DUE.is("ahead of a FAULT again", x.text(), -4);
        DUE.is("THE TAPE stays", x.count(4), 5);
        DUE.is("as many TEXTS", x.count(3), 6);
    }

    private static void textEmptyThen() {
        DUE.by("22: THE TAPE, which is empty then (by a FAULT, too)");
        ChalkStreet x = new ChalkStreet(0);
        Scenes.write(x, "take 1;keep 1;");
        DUE.is("fourteen bytes", x.count(4), 14);
        DUE.is("TEXT 1", x.text(), 1);
        DUE.is("empty", x.count(4), 0);
        DUE.is("a TAPE of none", x.text(), -100);
        Scenes.write(x, "take 1;keep");
        DUE.is("a FAULT", x.text(), -111);
        DUE.is("empty", x.count(4), 0);
        Scenes.write(x, " 1;");
        DUE.is("nothing ahead of it", x.text(), -101);
        for (int i = 0; i < 20; i++) x.feed(8, -1);
        DUE.is("a full one", x.text(), -100);
        for (int i = 0; i < 20; i++) DUE.is("room again", x.feed(8, -1), 8 * i + 8);
    }

    private static void textRefused() {
        DUE.by("22: FULL; refusals change nothing");
        REFUSED.ofFull("text()", x -> x.text(), -4);
        ChalkStreet x = Scenes.some();
        DUE.is("a FAULT", x.text(), -107);
        DUE.is("THE RULE stays", x.count(5), 1);
        DUE.is("TEXTS stay", x.count(3), 2);
        ChalkStreet y = Scenes.some();
        for (int t = 0; t < 3; t++) {
            DUE.is("take stays", x.says(t, 0), y.says(t, 0));
            DUE.is("keep stays", x.says(t, 1), y.says(t, 1));
        }
    }

    // ---- TOKENS

    private static void tokensAsLongAsCanBe() {
        DUE.by("22: TOKENS, each as long as can be; blanks may stand between");
        comesTo("take 1or 0;keep 1;", 1);
        comesTo("take 1or(0);keep 1;", 1);
        comesTo("take(1)or(0)and-1;keep(1);", 1);
        comesTo("take not(0);keep 1;", 1);
        comesTo("take1;keep1;", 1);
        comesTo("take 1or0and 0;keep 1;", 1);
        comesTo("take not0;keep 1;", 1);
        comesTo("take 12 - 3;keep 1;", 9);
        comesTo("take 1234or 5;keep 1;", 1);
        fault("takewon;keep 1;", 0);
        fault("take wonor 1;keep 1;", 5);
        fault("take notwon;keep 1;", 5);
        fault("take 1 2;keep 1;", 7);
        fault("take 12 34;keep 1;", 8);
        fault("take wo n;keep 1;", 5);
        fault("ta ke 1;keep 1;", 0);
    }

    private static void words() {
        DUE.by("22: WORDS (a .. z); FAULT: a WORD that is neither KEY nor NAME");
        for (String name : new String[] {"year", "won", "lost", "endless", "own"}) {
            comesTo("take " + name + "*0;keep 1;", 0);
            fault("take " + name + "s;keep 1;", 5);
            fault("take a" + name + ";keep 1;", 5);
            fault("take " + name.substring(1) + ";keep 1;", 5);
            fault("take " + name.substring(0, name.length() - 1) + ";keep 1;", 5);
        }
        String[] all = {"take", "keep", "or", "and", "not", "year", "won", "lost", "endless", "steps", "own"};
        for (String word : all) {
            for (int i = 0; i < word.length(); i++) {
                char other = word.charAt(i) == 'z' ? 'a' : (char) (word.charAt(i) + 1);
                String wrong = word.substring(0, i) + other + word.substring(i + 1);
                fault(wrong + " 1;keep 1;", 0);
                fault("take " + wrong + ";keep 1;", 5);
                fault("take 1 " + wrong + " 1;keep 1;", 7);
                fault("take 1;" + wrong + " 1;", 7);
            }
        }
        comesTo("take steps;keep 1;", 1);
        fault("take step;keep 1;", 5);
        fault("take stepss;keep 1;", 5);
        for (String key : new String[] {"take", "keep", "or", "and"}) fault("take " + key + ";keep 1;", 5);
        for (String word : new String[] {"a", "z", "tak", "taker", "keepp", "o", "orr", "an", "ands", "no", "nots"}) {
            fault("take " + word + " 1;keep 1;", 5);
            fault(word + " 1;keep 1;", 0);
            fault("take 1 " + word + " 1;keep 1;", 7);
        }
        fault("take Won;keep 1;", 5);
        fault("take wOn;keep 1;", 5);
        fault("take won_;keep 1;", 8);
        fault("take won`;keep 1;", 8);
        fault("take won{;keep 1;", 8);
        fault("take won@;keep 1;", 8);
        fault("take won[;keep 1;", 8);
    }

    private static void numbers() {
        DUE.by("22: NUMBERS (as many digits as stand there, 4 at most); FAULT: a NUMBER that is too long");
        comesTo("take 0;keep 1;", 0);
        comesTo("take 9;keep 1;", 9);
        comesTo("take 10;keep 1;", 10);
        comesTo("take 9999;keep 1;", 9999);
        comesTo("take 0000;keep 1;", 0);
        comesTo("take 0009;keep 1;", 9);
        comesTo("take 1020;keep 1;", 1020);
        comesTo("take 9999+9999;keep 9999;", 19998);
        fault("take 10000;keep 1;", 5);
        fault("take 00000;keep 1;", 5);
        fault("take 00001;keep 1;", 5);
        fault("take 99999;keep 1;", 5);
        fault("take 1+00000;keep 1;", 7);
        fault("take -12345;keep 1;", 6);
        fault("take 1;keep 12345;", 12);
        fault("take 1;keep 1234567890;", 12);
        comesTo("take 1234-5;keep 1;", 1229);
        fault("take 1/2;keep 1;", 6);
        fault("take 1:2;keep 1;", 6);
        fault("take 1.2;keep 1;", 6);
    }

    private static void signs() {
        DUE.by("22: SIGNS ( ) ; + - * < = ; FAULT: a byte that begins none");
        for (int sign = 0; sign < 256; sign++) {
            boolean blank = sign == ' ' || sign == '\n';
            boolean joins = sign == '+' || sign == '-' || sign == '*' || sign == '<' || sign == '=';
            ChalkStreet x = new ChalkStreet(0);
            Scenes.write(x, "take 7");
            x.feed(1, sign);
            Scenes.write(x, "7;keep 1;");
            // A blank or a ; may stand behind 7, but the other 7 can't stand behind it; a digit belongs to both.
            boolean digit = sign >= '0' && sign <= '9';
            int want = joins || digit ? 1 : blank || sign == ';' ? -107 : -106;
            DUE.is("byte " + sign + " behind 7", x.text(), want);
            ChalkStreet y = new ChalkStreet(0);
            y.feed(1, sign);
            Scenes.write(y, " take 7;keep 1;");
            DUE.is("byte " + sign + " ahead of all", y.text(), blank ? 1 : -100);
            ChalkStreet z = new ChalkStreet(0);
            Scenes.write(z, "take 7;keep 1;");
            z.feed(1, sign);
            DUE.is("byte " + sign + " behind all", z.text(), blank ? 1 : -114);
        }
    }

    private static void blanks() {
        DUE.by("22: blanks (32, 10) may stand between");
        comesTo("take 1;keep 1;", 1);
        comesTo("  take\n1\n;\n keep  1 ; ", 1);
        comesTo("\n\n\ntake 1 + \n 1;keep 1;\n", 2);
        for (String none : new String[] {"\t", "\r", "\u000b", "\f", "\u0000", "\u001f", "!", "\u0085", "\u00a0"}) {
            fault("take" + none + "1;keep 1;", 4);
            fault("take 1;" + none + "keep 1;", 7);
            fault("take 1;keep 1;" + none, 14);
        }
    }

    private static void noneOfAll() {
        DUE.by("22: TEXT: take E ; keep E ;");
        fault("keep 1;take 1;", 0);
        fault("take 1;take 1;", 7);
        fault("1;keep 1;", 0);
        fault(";", 0);
        fault("take;keep 1;", 4);
        fault("take 1 keep 1;", 7);
        fault("take 1;;keep 1;", 7);
        fault("take 1;keep;", 11);
        fault("take 1;keep 1;;", 14);
        fault("take 1;keep 1;take", 14);
        fault("take 1;keep 1; 1", 15);
    }

    // ---- what is open

    private static void fiveOpen() {
        DUE.by("22: FAULT: a (, a not, a - ahead of a ONE while 5 of these are open");
        for (int many = 1; many <= 7; many++) {
            String open = "take " + times("(", many) + "1" + times(")", many) + ";keep 1;";
            String not = "take " + times("not ", many) + "7;keep 1;";
            String minus = "take " + times("-", many) + "7;keep 1;";
            if (many <= 5) {
                comesTo(open, 1);
                comesTo(not, many % 2 == 1 ? 0 : 1);
                comesTo(minus, many % 2 == 1 ? -7 : 7);
            } else {
                fault(open, 5 + 5);
                fault(not, 5 + 5 * 4);
                fault(minus, 5 + 5);
            }
        }
        fault("take 1;keep ((((((1))))));", 12 + 5);
        fault("take 1;keep not not not not not not 1;", 12 + 20);
        fault("take 1;keep ------1;", 12 + 5);
    }

    private static void openTill() {
        DUE.by("22: a ( till its ), not and - till what they belong to ends");
        comesTo("take (((((1)))))+(((((2)))));keep 1;", 3);
        comesTo("take -----1+-----2;keep 1;", -3);
        comesTo("take -----1*(((((2)))));keep 1;", -2);
        comesTo("take not not not not not 0 and not not not not not 0;keep 1;", 1);
        comesTo("take not not not not not 1 or (((((3)))));keep 1;", 1);
        comesTo("take ((((1))+(((2)))));keep 1;", 3);
        comesTo("take (((((1))+((2))+((3)))));keep 1;", 6);
        comesTo("take (1)+(2)+(3)+(4)+(5)+(6)+(7);keep 1;", 28);
        comesTo("take -1-1-1-1-1-1-1-1;keep 1;", -8);
        comesTo("take -1 - -1 - -1 - -1 - -1 - -1 - -1;keep 1;", 5);
        fault("take not 0<-----1;keep 1;", 11 + 4);
        fault("take not 0=(((((1)))));keep 1;", 11 + 4);
        comesTo("take not 0<----1;keep 1;", 0);
        comesTo("take not 0=((((1))));keep 1;", 1);
        fault("take not 1+2*3<-----1;keep 1;", 15 + 4);
        fault("take -(((((1)))));keep 1;", 6 + 4);
        comesTo("take -((((1))))+(((((1)))));keep 1;", 0);
        fault("take (((((1))))+(((((1)))));keep 1;", 16 + 4);
    }

    private static void mixedOpen() {
        DUE.by("22: while 5 of these are open: of all three together");
        comesTo("take not -(-(1));keep 1;", 0);
        comesTo("take not (not (not 1));keep 1;", 0);
        fault("take not (not (not (1)));keep 1;", 19);
        comesTo("take not (not (-1));keep 1;", 1);
        fault("take not (not (-(1)));keep 1;", 16);
        fault("take -(-(-(1)));keep 1;", 10);
        comesTo("take -(-(-1));keep 1;", -1);
        fault("take (not (not (not 1)));keep 1;", 16);
        fault("take ((((( - 1)))));keep 1;", 11);
        fault("take ((((( not 1)))));keep 1;", 11);
        comesTo("take (((((1 - 1)))));keep 1;", 0);
        fault("take (((((1 - - 1)))));keep 1;", 14);
        fault("take not not not not not - 1;keep 1;", 25);
        fault("take not not not not not (1);keep 1;", 25);
        fault("take -----(1);keep 1;", 10);
        fault("take -----not 1;keep 1;", 10);
        fault("take ----not 1;keep 1;", 9);
    }

    private static void manyAtOnce() {
        DUE.by("22: perhaps < or = and a SUM; TERM { + or - TERM }; ONE { * ONE }");
        comesTo("take 1<2;keep 1;", 1);
        fault("take 1<2<3;keep 1;", 8);
        fault("take 1=2=3;keep 1;", 8);
        fault("take 1<2=3;keep 1;", 8);
        comesTo("take (1<2)<3;keep 1;", 1);
        comesTo("take 1<2 and 2<3 and 3=3 or 4=5;keep 1;", 1);
        fault("take <2;keep 1;", 5);
        fault("take 1<;keep 1;", 7);
        fault("take 1<=2;keep 1;", 7);
        fault("take 1+;keep 1;", 7);
        fault("take 1++2;keep 1;", 7);
        fault("take +2;keep 1;", 5);
        fault("take *2;keep 1;", 5);
        fault("take 1*;keep 1;", 7);
        fault("take 1**2;keep 1;", 7);
        comesTo("take 1*-2;keep 1;", -2);
        comesTo("take 1--2;keep 1;", 3);
        comesTo("take 1+-2;keep 1;", -1);
        fault("take 1-+2;keep 1;", 7);
        fault("take 1+not 2;keep 1;", 7);
        fault("take 1*not 2;keep 1;", 7);
        fault("take 1<not 2;keep 1;", 7);
        fault("take -not 2;keep 1;", 6);
        comesTo("take 1 and not 0;keep 1;", 1);
        comesTo("take 0 or not 0;keep 1;", 1);
        fault("take ();keep 1;", 6);
        fault("take (1;keep 1;", 7);
        fault("take 1);keep 1;", 6);
        fault("take (1));keep 1;", 8);
        fault("take 1(2);keep 1;", 6);
        fault("take (1)2;keep 1;", 8);
        fault("take 1 won;keep 1;", 7);
    }

    private static void tooEarly() {
        DUE.by("22: the text's size, if it ends too early");
        String[] tokens = {"take", "-", "(", "won", "+", "12", ")", "*", "3", "<", "4", "and", "not", "5", "or", "6", ";",
            "keep", "7", "=", "8", ";"};
        String text = "";
        for (String token : tokens) {
            fault(text, text.length());
            fault(text + "\n  ", text.length() + 3);
            text += token + " ";
        }
        comesTo(text, 1);
        fault("take", 4);
        fault("take 1;keep", 11);
        fault("take 1;keep 1", 13);
        fault("take 1;keep 1 \n", 15);
        fault("take 1;keep (1 ", 15);
    }

    private static void notBehindIt() {
        DUE.by("22: -100 less the place of its FAULT: the first byte of the TOKEN");
        fault("take 1 12345;keep 1;", 7);
        fault("take 1 endlessly;keep 1;", 7);
        fault("   takes 1;keep 1;", 3);
        fault("take 1;\n\n  keeps 1;", 11);
        fault("take 1 endless;keep 1;", 7);
    }

    private static void firstOfMany() {
        DUE.by("22: FAULT: the first TOKEN that can't stand there");
        fault("take ; # 12345 foo", 5);
        fault("take # ;", 5);
        fault("take 1 + # ( ( ( ( ( (", 9);
        fault("keep #", 0);
        fault("# take 1;keep 1;", 0);
        fault("take 12345 #;", 5);
        fault("take foo 12345;", 5);
        fault("take 1;keep 1;#", 14);
    }
}
