/**
 * The edges of a TEXT: each number of each item, its form byte by byte, how many sorts and patches there may be,
 * what must be told ahead. A text with a fault is not laid, and nothing changes by trying.
 */
public final class TextEdgesTest {
    private static final int NO = -2, NONE = -4;
    private static final String G = "g100,0,0,0;", F = "f0,0,1,0;";
    /** Three sorts and three patches ahead of an item that is tried. */
    private static final String AHEAD = G.repeat(3) + F.repeat(3);

    private static Probe written(String text) {
        return new Probe().after("text:" + text);
    }

    private static void sound(String text) {
        Due.is("fault() of " + text, written(text).ask("fault()"), NONE);
    }

    private static void faultAt(int place, String text) {
        Due.is("fault() of " + text, written(text).ask("fault()"), place);
        Due.is("lay() of " + text, written(text).ask("lay()"), NO);
    }

    /** At # stands the number that is tried: behind items that tell all that it may need. */
    private static void number(String item, int least, int greatest) {
        sound(AHEAD + item.replace("#", "" + least));
        sound(AHEAD + item.replace("#", "" + greatest));
        sound(AHEAD + item.replace("#", String.format("%03d", least)));
        String[] wrong = {"" + (least - 1), "" + (greatest + 1), "999", "", "1000", "0000", "000" + greatest, "+0", " 0", "0 ", "0,0"};
        for (String number : wrong) {
            faultAt(AHEAD.length(), AHEAD + item.replace("#", number));
        }
    }

    private static void numbers() {
        number("f#,0,1,0;", 0, 7);
        number("f0,#,1,0;", 0, 3);
        number("f0,0,#,0;", 1, 9);
        number("f0,0,1,#;", 0, 15);
        number("u#,0,60;", 0, 2);
        number("u2,#,60;", 0, 2);
        number("u2,2,#;", 0, 60);
        number("b#,2,9;", 0, 3);
        number("b3,#,9;", 0, 2);
        number("b3,2,#;", 0, 9);
        number("w#,99;", 0, 3);
        number("w3,#;", 0, 99);
        number("t#,99,1;", 0, 3);
        number("t3,#,1;", 0, 99);
        number("t3,99,#;", 0, 1);
        number("x#,2,99;", 0, 1);
        number("x2,#,99;", 0, 1);
        number("x2,1,#;", 0, 99);
        // a number of a sort alone: the others are 0
        number("g#,0,0,0;", 100, 100);
        number("g0,#,0,0;", 100, 100);
        number("g0,0,#,0;", 100, 100);
        number("g0,0,0,#;", 100, 100);
        number("g25,25,25,#;", 25, 25);
        number("g1,#,1,1;", 97, 97);
        sound("g0,1,99,0;");
        faultAt(0, "g0,0,0,0;");
        faultAt(0, "g100,100,100,100;");
    }

    /** Numbers that are told are laid as they are. */
    private static void greatestAreLaid() {
        Probe probe = written("g0,0,0,100;g1,2,3,94;f7,3,9,15;u0,1,60;b3,1,9;w3,99;t3,99,1;t0,99,0;x1,0,99;");
        Due.is("lay()", probe.ask("lay()"), 1);
        String[] calls = {"cooked(0, 0, 3)", "cooked(1, 0, 0)", "cooked(1, 0, 1)", "cooked(1, 0, 2)", "cooked(1, 0, 3)",
            "face(0, 0)", "face(0, 1)", "face(0, 2)", "face(0, 3)", "lies(0, 1, 4)", "lies(0, 1, 3)", "leave(99, 0)", "leave(100, 0)"};
        int[] dues = {100, 1, 2, 3, 94, 7, 3, 9, 15, 1, 81, 1, NONE};
        for (int i = 0; i < calls.length; i++) {
            Due.is(calls[i], probe.ask(calls[i]), dues[i]);
        }
    }

    /** A number has one to three figures, whatever the first one is; zeros ahead do not change it. */
    private static void zerosAhead() {
        Probe probe = written("g007,03,90,000;g000,000,000,100;f007,003,09,015;u000,01,060;b03,001,009;w003,050;t000,009,000;t003,09,001;x001,000,02;");
        Due.is("lay()", probe.ask("lay()"), 1);
        String[] calls = {"cooked(0, 0, 0)", "cooked(0, 0, 1)", "cooked(0, 0, 2)", "cooked(0, 0, 3)", "face(0, 0)", "face(0, 1)", "face(0, 2)",
            "face(0, 3)", "lies(0, 1, 4)", "lies(0, 1, 3)", "leave(9, 0)", "leave(10, 0)"};
        int[] dues = {7, 3, 90, 0, 7, 3, 9, 15, 30, 81, 1, NONE};
        for (int i = 0; i < calls.length; i++) {
            Due.is(calls[i], probe.ask(calls[i]), dues[i]);
        }
        faultAt(0, "w0000,0;");
        faultAt(0, "w0,0099;");
    }

    private static void limits() {
        for (int n = 0; n <= 6; n++) {
            sound(G.repeat(n));
            sound(F.repeat(n + 4));
        }
        faultAt(66, G.repeat(7));
        faultAt(75, G.repeat(6) + F + G + F);
        faultAt(90, F.repeat(11));
        faultAt(101, F.repeat(10) + G + F + G);
        sound(G.repeat(6) + F.repeat(10) + "u9,5,60;b3,5,9;x5,4,99;x4,5,99;");
        faultAt(156, G.repeat(6) + F.repeat(10) + "u10,5,60;");
        faultAt(156, G.repeat(6) + F.repeat(10) + "u9,6,60;");
        faultAt(156, G.repeat(6) + F.repeat(10) + "b3,6,9;");
        faultAt(156, G.repeat(6) + F.repeat(10) + "x6,5,9;");
        faultAt(156, G.repeat(6) + F.repeat(10) + "x5,6,9;");
        // without a sort or a patch it has no fault, but is not laid
        for (String text : new String[] {"", G, F, G.repeat(6), F.repeat(10), "w0,0;t0,0,0;", G + "b0,0,1;"}) {
            sound(text);
            Due.is("lay() of " + text, written(text).ask("lay()"), NO);
        }
        Due.is("lay() of the least", written(F + G).ask("lay()"), 1);
        Due.is("lay() of the fullest", written(G.repeat(6) + F.repeat(10)).ask("lay()"), 10);
    }

    private static void toldAhead() {
        faultAt(0, "u0,0,1;" + G + F);
        faultAt(11, G + "u0,0,1;" + F);
        faultAt(9, F + "u0,0,1;" + G);
        faultAt(20, G + F + "u1,0,1;" + F);
        faultAt(20, G + F + "u0,1,1;" + G);
        sound(F + G + "u0,0,1;");
        faultAt(0, "b0,0,1;" + G);
        faultAt(11, G + "b0,1,1;" + G);
        sound(G + "b0,0,1;");
        faultAt(0, "x0,1,1;" + G + G);
        faultAt(11, G + "x0,1,1;" + G);
        faultAt(11, G + "x1,0,1;" + G);
        sound(G + G + "x1,0,1;");
        for (int s = 0; s < 3; s++) {
            faultAt(AHEAD.length(), AHEAD + "x" + s + "," + s + ",0;");
        }
        sound("w3,1;t3,1,1;" + G + F);
    }

    private static void slipsTogether() {
        int at = AHEAD.length();
        sound(AHEAD + "x0,1,1;x0,2,99;");
        sound(AHEAD + "x0,2,99;x0,1,1;");
        faultAt(at + 7, AHEAD + "x0,1,2;x0,2,99;");
        faultAt(at + 8, AHEAD + "x0,2,99;x0,1,2;");
        sound(AHEAD + "x0,1,50;x0,2,50;x1,0,50;x1,2,50;x2,0,50;x2,1,50;");
        faultAt(at + 40, AHEAD + "x0,1,50;x0,2,50;x1,0,50;x1,2,50;x2,0,50;x2,1,51;");
        // the last one of both counts, not those before
        sound(AHEAD + "x0,1,99;x0,1,99;x0,1,99;x0,2,1;");
        sound(AHEAD + "x0,1,99;x0,1,0;x0,2,99;");
        faultAt(at + 16, AHEAD + "x0,1,99;x0,1,98;x0,2,3;");
        sound(AHEAD + "x0,1,99;x0,1,98;x0,2,2;");
        // the first item by which they are above 100 is the fault, though a later one would lower them
        faultAt(at + 8, AHEAD + "x0,1,60;x0,2,60;x0,1,1;");
        faultAt(at + 8, AHEAD + "x0,1,60;x0,2,60;x0,2,1;");
        sound(AHEAD + "x0,1,60;x0,1,1;x0,2,60;");
        // of six sorts one is called each of the others
        String six = G.repeat(6);
        sound(six + "x5,0,20;x5,1,20;x5,2,20;x5,3,20;x5,4,20;");
        faultAt(66 + 32, six + "x5,0,20;x5,1,20;x5,2,20;x5,3,20;x5,4,21;");
    }

    private static void bytes() {
        int at = AHEAD.length();
        for (int b = 0; b < 256; b++) {
            char c = (char) b;
            boolean figure = c >= '0' && c <= '9';
            oneByte(AHEAD + c + "1,0,0;", "ubtx".indexOf(c) >= 0);
            oneByte(AHEAD + c + "1,0;", c == 'w');
            oneByte(AHEAD + c + "0,0,1,0;", c == 'f');
            oneByte(AHEAD + c + "0,0,100,0;", c == 'g');
            oneByte(AHEAD + "t" + c + ",0,0;", c >= '0' && c <= '3');
            oneByte(AHEAD + "t1," + c + ",0;", figure);
            oneByte(AHEAD + "t1,0," + c + ";", c == '0' || c == '1');
            oneByte(AHEAD + "t1" + c + "0,0;", c == ',');
            oneByte(AHEAD + "t1,0" + c + "0;", c == ',');
            oneByte(AHEAD + "t1,0,0" + c, c == ';');
            // behind an item a byte alone is no item
            Due.is("fault() of a byte " + b + " alone", written(AHEAD + c).ask("fault()"), at);
            Due.is("fault() of a byte " + b + " behind", written(AHEAD + "w1,0;" + c).ask("fault()"), at + 5);
        }
    }

    private static void oneByte(String text, boolean good) {
        Due.is("fault() of " + text, written(text).ask("fault()"), good ? NONE : AHEAD.length());
    }

    private static void cutEverywhere() {
        String text = G + "g1,2,3,94;" + F + "f7,3,9,15;" + "u1,1,60;" + "b3,0,9;" + "w2,99;" + "t1,10,1;" + "x1,0,99;";
        int start = 0;
        for (int length = 0; length <= text.length(); length++) {
            if (length > 0 && text.charAt(length - 1) == ';') {
                start = length;
            }
            Due.is("fault() of the first " + length + " bytes", written(text.substring(0, length)).ask("fault()"),
                start == length ? NONE : start);
        }
    }

    /** Only the lowest bytes of v count, the highest of these first. */
    private static void piecesOfAllLengths() {
        String text = "g1,2,3,94;" + G + "f7,3,9,15;" + "u0,1,60;" + "w3,50;";
        for (int n = 1; n <= 8; n++) {
            Probe probe = new Probe();
            for (int at = 0; at < text.length(); at += n) {
                int length = Math.min(n, text.length() - at);
                long v = -1;
                for (int i = 0; i < length; i++) {
                    v = v << 8 | text.charAt(at + i);
                }
                Due.is("write(" + length + ", " + v + ")", probe.ask("write(" + length + ", " + v + ")"), at + length);
            }
            Due.is("fault() of pieces of " + n, probe.ask("fault()"), NONE);
            Due.is("lay() of pieces of " + n, probe.ask("lay()"), 1);
            Due.is("lies(0, 1, 4)", probe.ask("lies(0, 1, 4)"), 30);
            Due.is("cooked(0, 0, 3)", probe.ask("cooked(0, 0, 3)"), 94);
        }
        // a byte above 127 makes v less than 0; it is a byte as others are
        Probe probe = written(G);
        Due.is("write(8, least long)", probe.ask("write(8, " + Long.MIN_VALUE + ")"), 19);
        Due.is("fault()", probe.ask("fault()"), 11);
        probe = written(G);
        Due.is("write(8, -1)", probe.ask("write(8, -1)"), 19);
        Due.is("fault()", probe.ask("fault()"), 11);
        probe = new Probe();
        Due.is("write(1, 256 and f)", probe.ask("write(1, " + (256L + 'f') + ")"), 1);
        probe.write("0,0,1,0;");
        Due.is("fault()", probe.ask("fault()"), NONE);
    }

    private static void longest() {
        String text = G.repeat(6) + F.repeat(10) + "w0,10;" + "w3,99;".repeat(56);
        Due.is("the longest text's length", text.length() + 2, 500);
        String full = text.replace("w0,10;", "w0,010;").replaceFirst("w3,99;", "w3,099;");
        Probe probe = written(full);
        Due.is("size(2)", probe.ask("size(2)"), 500);
        Due.is("fault() of 500 bytes", probe.ask("fault()"), NONE);
        Due.is("write(1, 0)", probe.ask("write(1, 0)"), -3);
        Due.is("lay() of 500 bytes", probe.ask("lay()"), 10);
        Due.is("size(2), it stays", probe.ask("size(2)"), 500);
        Due.is("lay() once more", probe.ask("lay()"), 10);
        Due.is("wipe() of 500 bytes", probe.ask("wipe()"), 500);
        Due.is("lay() of nothing", probe.ask("lay()"), NO);
        Due.is("size(1), as laid", probe.ask("size(1)"), 10);
        faultAt(494, full.substring(0, 499) + ",");
        faultAt(494, full.substring(0, 499));
        faultAt(494, full.substring(0, 494) + "v3,99;");
        faultAt(0, "h" + full.substring(1));
        faultAt(499, full.substring(0, 494) + "w3,9;" + "w");
    }

    public static void main(String[] args) {
        numbers();
        greatestAreLaid();
        zerosAhead();
        limits();
        toldAhead();
        slipsTogether();
        bytes();
        cutEverywhere();
        piecesOfAllLengths();
        longest();
        Due.end();
    }
}
