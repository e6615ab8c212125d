/** Each promise by itself: ordinary inputs, the edges that the document names, wrong inputs. */
public final class PromisesTest {
    private static final int BAD = -1, NO = -2, FULL = -3, NONE = -4;
    private static int wrong = 0;
    private static int promise = 0;
    private static int asked = 0;

    private static void due(String call, long got, long want) {
        asked++;
        if (got != want) {
            wrong++;
            System.out.println("promise " + promise + ": " + call + " answered " + got + ", due is " + want);
        }
    }

    private static void write(QuernGrains q, String text) {
        for (char c : text.toCharArray()) {
            q.write(1, c);
        }
    }

    private static QuernGrains written(String text) {
        QuernGrains q = new QuernGrains();
        write(q, text);
        return q;
    }

    private static QuernGrains laid(String text) {
        QuernGrains q = written(text);
        due("fault() of " + text, q.fault(), NONE);
        if (q.lay() < 1) {
            due("lay() of " + text, NO, 1);
        }
        return q;
    }

    private static void faultOf(String text, int place) {
        due("fault() of " + text, written(text).fault(), place);
    }

    private static String times(String part, int n) {
        return part.repeat(n);
    }

    private static final String G = "g100,0,0,0;", F = "f0,0,1,0;";

    private static void newObject() {
        QuernGrains q = new QuernGrains();
        due("size(0)", q.size(0), 1);
        due("size(1)", q.size(1), 1);
        for (int what = 2; what <= 5; what++) {
            due("size(" + what + ")", q.size(what), 0);
        }
        due("fault()", q.fault(), NONE);
        int[] face = {0, 0, 1, 0, 0};
        for (int what = 0; what < 5; what++) {
            due("face(0, " + what + ")", q.face(0, what), face[what]);
        }
        due("cooked(0, 0, 0)", q.cooked(0, 0, 0), 100);
        due("cooked(0, 0, 3)", q.cooked(0, 0, 3), 0);
        due("leave(0, 1)", q.leave(0, 1), 0);
        due("teeth(0)", q.teeth(0), 0);
        due("back()", q.back(), NO);
        QuernGrains other = new QuernGrains();
        q.count(0, 0, 5);
        due("face(0, 4) of another object", other.face(0, 4), 0);
    }

    private static void write() {
        QuernGrains q = new QuernGrains();
        due("write(0, 0)", q.write(0, 0), BAD);
        due("write(9, 0)", q.write(9, 0), BAD);
        due("write(-1, 0)", q.write(-1, 0), BAD);
        due("write(min, 0)", q.write(Integer.MIN_VALUE, 0), BAD);
        due("write(3, ..)", q.write(3, 0x6767_7777_772c_3939L), 3);
        due("wipe()", q.wipe(), 3);
        // of "zzzzw1,9" the lowest four bytes, the highest first
        due("write(4, ..)", q.write(4, 0x7a7a_7a7a_7731_2c39L), 4);
        due("write(1, ;)", q.write(1, ';'), 5);
        due("fault()", q.fault(), NONE);
        due("write(8, ..)", q.write(8, 0x7731_2c39_393b_ffffL), 13);
        due("fault()", q.fault(), 11);
        q = new QuernGrains();
        for (int i = 1; i <= 62; i++) {
            due("write(8, ..)", q.write(8, -1L), 8 * i);
        }
        due("write(5, ..) at 496", q.write(5, 0), FULL);
        due("write(9, ..) at 496", q.write(9, 0), BAD);
        due("size(2)", q.size(2), 496);
        due("write(4, ..) at 496", q.write(4, 0), 500);
        due("write(1, ..) at 500", q.write(1, 0), FULL);
        due("write(0, ..) at 500", q.write(0, 0), BAD);
        due("size(2)", q.size(2), 500);
    }

    private static void wipe() {
        QuernGrains q = written(G + F);
        due("wipe()", q.wipe(), 20);
        due("wipe()", q.wipe(), 0);
        due("size(2)", q.size(2), 0);
        due("lay()", q.lay(), NO);
        q = laid(G + G + F);
        q.wipe();
        due("size(0), what is laid stays", q.size(0), 2);
    }

    private static void faultOfForm() {
        faultOf("", NONE);
        faultOf("g", 0);
        faultOf(";", 0);
        faultOf("G100,0,0,0;", 0);
        faultOf("h100,0,0,0;", 0);
        faultOf("g100,0,0,0", 0);
        faultOf("g100,0,0;", 0);
        faultOf("g100,0,0,0,0;", 0);
        faultOf("g100,0,0,0,", 0);
        faultOf("g100,0,0,;", 0);
        faultOf("f0,0,1,;;", 0);
        faultOf("g,100,0,0;", 0);
        faultOf("g0100,0,0,0;", 0);
        faultOf("g100,00,000,0;", NONE);
        faultOf("g 100,0,0,0;", 0);
        faultOf("g100;0;0;0;", 0);
        faultOf("g-1,101,0,0;", 0);
        faultOf(G + ";", 11);
        faultOf(G + " ", 11);
        faultOf(G + G + "w0,1;w0;", 27);
        faultOf(G + (char) 231 + "100,0,0,0;", 11);
    }

    private static void faultOfNumbers() {
        faultOf("g99,0,0,0;", 0);
        faultOf("g0,0,1,100;", 0);
        faultOf("g0,0,0,100;", NONE);
        faultOf(times(G, 6), NONE);
        faultOf(times(G, 7), 66);
        faultOf("f7,3,9,15;", NONE);
        faultOf("f8,0,1,0;", 0);
        faultOf("f0,4,1,0;", 0);
        faultOf("f0,0,0,0;", 0);
        faultOf("f0,0,10,0;", 0);
        faultOf("f0,0,1,16;", 0);
        faultOf(times(F, 10), NONE);
        faultOf(times(F, 11), 90);
        faultOf(G + F + "u0,0,60;u0,0,0;", NONE);
        faultOf(G + F + "u0,0,61;", 20);
        faultOf(G + F + "u1,0,1;" + F, 20);
        faultOf(G + F + "u0,1,1;" + G, 20);
        faultOf(F + "u0,0,1;" + G, 9);
        faultOf(G + "b3,0,9;b3,0,0;", NONE);
        faultOf(G + "b4,0,9;", 11);
        faultOf(G + "b3,1,9;", 11);
        faultOf(G + "b3,0,10;", 11);
        faultOf("b0,0,1;" + G, 0);
        faultOf("w3,99;w0,0;", NONE);
        faultOf("w4,9;", 0);
        faultOf("w0,100;", 0);
        faultOf("t3,99,1;t0,0,0;", NONE);
        faultOf("t4,1,0;", 0);
        faultOf("t0,100,0;", 0);
        faultOf("t0,1,2;", 0);
        faultOf(G + G + "x0,1,99;x1,0,99;x0,1,0;", NONE);
        faultOf(G + G + "x0,1,100;", 22);
        faultOf(G + G + "x0,0,1;", 22);
        faultOf(G + G + "x0,2,1;", 22);
        faultOf(G + G + "x2,0,1;", 22);
        faultOf(G + "x0,1,1;" + G, 11);
        faultOf(times(G, 3) + "x0,1,50;x0,2,50;", NONE);
        faultOf(times(G, 3) + "x0,1,50;x0,2,51;", 41);
        faultOf(times(G, 3) + "x1,0,50;x1,2,51;", 41);
        faultOf(times(G, 3) + "x2,1,50;x2,0,51;", 41);
        faultOf(times(G, 3) + "x0,1,99;x0,1,1;x0,2,99;", NONE);
        faultOf(times(G, 3) + "x0,1,60;x0,2,40;x0,1,61;", 49);
        faultOf(times(G, 3) + "x0,1,60;x1,2,60;x2,0,60;", NONE);
        faultOf(times(G, 6) + times(F, 10) + times("w0,1;", 60), NONE);
    }

    private static void lay() {
        due("lay() of nothing", new QuernGrains().lay(), NO);
        due("lay() without a patch", written(G).lay(), NO);
        due("lay() without a sort", written(F).lay(), NO);
        due("lay()", written(F + G).lay(), 1);
        due("lay()", written(G + times(F, 10)).lay(), 10);
        QuernGrains q = laid(G + G + F + F);
        due("size(2), the text stays", q.size(2), 40);
        q.count(1, 1, 9);
        q.blind(0, 1);
        q.teeth(3);
        q.keep();
        write(q, "h");
        due("lay() with a fault", q.lay(), NO);
        due("size(5), nothing changed", q.size(5), 1);
        due("size(4), nothing changed", q.size(4), 1);
        q.wipe();
        write(q, G + G + G + F + F + F);
        due("lay()", q.lay(), 3);
        due("size(0)", q.size(0), 3);
        for (int what = 3; what <= 5; what++) {
            due("size(" + what + ")", q.size(what), 0);
        }
        due("teeth(0)", q.teeth(0), 0);
        due("count(1, 1, 0)", q.count(1, 1, 0), 0);
        due("blind(0, 1)", q.blind(0, 1), 1);
        due("back()", q.back(), NO);
        // nothing of an older text or of a fault's stays
        q = laid(G + G + F + "u0,0,9;b0,0,3;w0,9;t0,9,1;x0,1,99;");
        write(q, "q");
        due("fault()", q.fault(), 65);
        due("lies(0, 0, -1)", q.lies(0, 0, -1), 9);
        q.wipe();
        write(q, G + G + "f0,0,1,1;");
        due("lay()", q.lay(), 1);
        due("lies(0, 0, -1)", q.lies(0, 0, -1), 0);
        due("leave(0, 1)", q.leave(0, 1), 0);
        due("leave(1, 0)", q.leave(1, 0), NONE);
        q.wipe();
        write(q, G + G + "f0,0,1,1;u0,0,60;");
        q.lay();
        due("lies(0, 0, -1)", q.lies(0, 0, -1), 60);
        due("read(0, 1, 0)", q.read(0, 1, 0), 60);
        due("lay() once more", q.lay(), 1);
        // what is laid is not touched by faults of later texts
        q.wipe();
        write(q, G + F + F + "u0,0,3;");
        due("fault()", q.fault(), NONE);
        due("size(0)", q.size(0), 2);
        due("size(1)", q.size(1), 1);
        due("lies(0, 0, -1)", q.lies(0, 0, -1), 60);
        q.count(0, 0, 9);
        due("lay()", q.lay(), 2);
        due("count(0, 0, 0)", q.count(0, 0, 0), 0);
        q = laid(G + F + "t0,9,1;t1,9,1;t2,9,1;t3,9,1;b0,0,1;");
        due("leave(0, 0)", q.leave(0, 0), 0);
        for (int again = 0; again < 2; again++) {
            q.wipe();
            write(q, G + F + "b0,0,1;");
            due("lay()", q.lay(), 1);
            due("leave(0, 0), no step must be now", q.leave(0, 0), 1);
        }
    }

    private static void face() {
        QuernGrains q = laid(G + "f7,2,9,15;f1,3,2,6;");
        int[][] faces = {{7, 2, 9, 15, 0}, {1, 3, 2, 6, 0}};
        for (int f = 0; f < 2; f++) {
            for (int what = 0; what < 5; what++) {
                due("face(" + f + ", " + what + ")", q.face(f, what), faces[f][what]);
            }
        }
        q.count(1, 0, 0);
        due("face(1, 4)", q.face(1, 4), 1);
        due("face(0, 4)", q.face(0, 4), 0);
        due("face(2, 0)", q.face(2, 0), BAD);
        due("face(-1, 0)", q.face(-1, 0), BAD);
        due("face(0, 5)", q.face(0, 5), BAD);
        due("face(0, -1)", q.face(0, -1), BAD);
        due("face(max, 4)", q.face(Integer.MAX_VALUE, 4), BAD);
    }

    private static void lies() {
        // 20 of use: step 0 takes 10 off, step 2 (of 10) 3; step 0's 2 times 3 lose 1 (of 1.8) at step 2
        QuernGrains q = laid(G + G + "f0,0,3,5;f0,0,3,0;u0,0,20;u1,0,7;b0,0,2;b1,0,9;b2,0,1;b2,1,4;w0,50;w1,99;w2,30;");
        due("lies(0, 0, 4)", q.lies(0, 0, 4), 7);
        due("lies(0, 0, 0)", q.lies(0, 0, 0), 5);
        due("lies(0, 0, 1)", q.lies(0, 0, 1), 0);
        due("lies(0, 0, 2)", q.lies(0, 0, 2), 3);
        due("lies(0, 0, 3)", q.lies(0, 0, 3), 0);
        due("lies(0, 0, -1)", q.lies(0, 0, -1), 15);
        due("lies(0, 1, -1)", q.lies(0, 1, -1), 12);
        due("lies(1, 0, -1)", q.lies(1, 0, -1), 7);
        due("lies(1, 0, 2)", q.lies(1, 0, 2), 0);
        due("lies(0, 0, 5)", q.lies(0, 0, 5), BAD);
        due("lies(0, 0, -2)", q.lies(0, 0, -2), BAD);
        due("lies(2, 0, 0)", q.lies(2, 0, 0), BAD);
        due("lies(-1, 0, 0)", q.lies(-1, 0, 0), BAD);
        due("lies(0, 2, 0)", q.lies(0, 2, 0), BAD);
        due("lies(0, -1, 0)", q.lies(0, -1, 0), BAD);
        // the last one of both counts; another pair stays
        q = laid(G + G + "f0,0,1,1;u0,0,20;u0,1,30;u0,0,4;b0,0,9;b0,0,1;w0,50;w0,0;");
        due("lies(0, 0, -1)", q.lies(0, 0, -1), 5);
        due("lies(0, 1, -1)", q.lies(0, 1, -1), 30);
        q = laid(G + "f0,0,9,15;u0,0,60;b0,0,9;b1,0,9;b2,0,9;b3,0,9;");
        due("lies(0, 0, -1)", q.lies(0, 0, -1), 384);
        // washing comes ahead of what comes on at that step, and takes each origin by itself
        q = laid(G + "f0,0,1,3;u0,0,1;b0,0,1;b1,0,9;w0,99;w1,99;");
        due("lies(0, 0, -1)", q.lies(0, 0, -1), 11);
    }

    private static void read() {
        // r for t = 0, 1 with z 0 and F 0: x is 1 and 6152, x times x modulo 65521 is 1 and 41487
        QuernGrains q = laid(G + G + G + F + "f0,0,1,0;u0,1,1;x1,0,1;");
        due("read(0, 0, 1), r 1 is not below 1", q.read(0, 0, 1), 1);
        q = laid(G + G + G + F + "f0,0,1,0;u0,1,1;x1,0,2;");
        due("read(0, 0, 0), r 1 is below 2", q.read(0, 0, 0), 1);
        due("read(0, 0, 1)", q.read(0, 0, 1), 0);
        q = laid(G + G + G + F + "u0,1,2;x1,0,1;x1,2,87;");
        due("read(0, 0, 2), r 1 and 87", q.read(0, 0, 2), 2);
        q = laid(G + G + G + F + "u0,1,2;x1,0,1;x1,2,86;");
        due("read(0, 0, 2)", q.read(0, 0, 2), 1);
        due("read(0, 0, 1)", q.read(0, 0, 1), 1);
        due("read(0, 0, 0)", q.read(0, 0, 0), 0);
        // t goes on over the sorts: the grain of sort 1 is t 1 here
        q = laid(G + G + G + F + "u0,0,1;u0,1,1;x1,2,88;");
        due("read(0, 0, 2)", q.read(0, 0, 2), 1);
        q = laid(G + G + G + F + "u0,0,1;u0,1,1;x1,2,87;");
        due("read(0, 0, 2)", q.read(0, 0, 2), 0);
        // patch 1: x is 3572, x times x is 12759184, modulo 65521 it is 48110
        q = laid(G + G + F + F + "u1,0,1;x0,1,10;");
        due("read(1, 0, 1)", q.read(1, 0, 1), 0);
        q = laid(G + G + F + F + "u1,0,1;x0,1,11;");
        due("read(1, 0, 1)", q.read(1, 0, 1), 1);
        // z 9999: x is 79182082, and its square modulo 65521 is 51303
        q = laid(G + G + F + "u0,0,1;x0,1,3;");
        due("read(0, 9999, 1)", q.read(0, 9999, 1), 0);
        q = laid(G + G + F + "u0,0,1;x0,1,4;");
        due("read(0, 9999, 1)", q.read(0, 9999, 1), 1);
        due("face(0, 4), it is not READ by this", q.face(0, 4), 0);
        due("read(0, 10000, 0)", q.read(0, 10000, 0), BAD);
        due("read(0, -1, 0)", q.read(0, -1, 0), BAD);
        due("read(1, 0, 0)", q.read(1, 0, 0), BAD);
        due("read(-1, 0, 0)", q.read(-1, 0, 0), BAD);
        due("read(0, 0, 2)", q.read(0, 0, 2), BAD);
        due("read(0, 0, -1)", q.read(0, 0, -1), BAD);
    }

    private static void more() {
        QuernGrains q = new QuernGrains();
        due("more(0, 1, 12, 1, 0)", q.more(0, 1, 12, 1, 0), 1);
        due("more(0, 1, 12, 1, 1)", q.more(0, 1, 12, 1, 1), 1);
        due("more(1, 1, 1, 1, 0)", q.more(1, 1, 1, 1, 0), 3);
        due("more(1, 1, 1, 1, 1)", q.more(1, 1, 1, 1, 1), 4);
        // of 3 at 2 by 3 two or more: 3 * 4 + 8 by 27
        due("more(2, 6, 1, 3, 0)", q.more(2, 6, 1, 3, 0), 20);
        due("more(2, 6, 1, 3, 1)", q.more(2, 6, 1, 3, 1), 27);
        due("more(12, 9, 0, 9, 1)", q.more(12, 9, 0, 9, 1), 4096);
        due("more(12, 9, 0, 8, 0)", q.more(12, 9, 0, 8, 0), 282429536481L);
        due("more(12, 9, 0, 8, 1)", q.more(12, 9, 0, 8, 1), 582622237229761L);
        due("more(6, 1, 6, 1, 0)", q.more(6, 1, 6, 1, 0), 1255);
        due("more(6, 1, 6, 1, 1)", q.more(6, 1, 6, 1, 1), 2048);
        long[][] bad = {{-1, 1, 1, 1, 0}, {1, 1, -1, 1, 0}, {12, 1, 1, 1, 0}, {13, 1, 0, 1, 0}, {0, 1, 13, 1, 0},
            {1, 0, 1, 1, 0}, {1, 10, 1, 1, 0}, {1, 1, 1, 0, 0}, {1, 1, 1, 10, 0}, {1, 1, 1, 1, 2}, {1, 1, 1, 1, -1},
            {Integer.MAX_VALUE, 1, Integer.MAX_VALUE, 1, 0}, {Integer.MIN_VALUE, 1, Integer.MIN_VALUE, 1, 0}};
        for (long[] b : bad) {
            due("more, bad", q.more((int) b[0], (int) b[1], (int) b[2], (int) b[3], (int) b[4]), BAD);
        }
    }

    private static void says() {
        QuernGrains q = new QuernGrains();
        due("says(1, 1, 1000)", q.says(1, 1, 1000), 10);
        due("says(1, 1, 2)", q.says(1, 1, 2), 1);
        due("says(1, 1, 3)", q.says(1, 1, 3), 2);
        due("says(9, 9, 9)", q.says(9, 9, 9), 4);
        due("says(1, 9, 1000)", q.says(1, 9, 1000), 3);
        due("says(9, 1, 1)", q.says(9, 1, 1), 0);
        // 0.9 to the 12 is above 1 by 4 and below 1 by 3
        due("says(9, 1, 3)", q.says(9, 1, 3), 11);
        due("says(9, 1, 4)", q.says(9, 1, 4), NONE);
        // 11 by 9 to the 12 is 11.1, to the 13 it is 13.6
        due("says(9, 2, 11)", q.says(9, 2, 11), 12);
        due("says(9, 2, 12)", q.says(9, 2, 12), NONE);
        due("says(0, 1, 1)", q.says(0, 1, 1), BAD);
        due("says(10, 1, 1)", q.says(10, 1, 1), BAD);
        due("says(1, 0, 1)", q.says(1, 0, 1), BAD);
        due("says(1, 10, 1)", q.says(1, 10, 1), BAD);
        due("says(1, 1, 0)", q.says(1, 1, 0), BAD);
        due("says(1, 1, 1001)", q.says(1, 1, 1001), BAD);
    }

    private static void controls() {
        QuernGrains q = new QuernGrains();
        due("controls(1, 1, 1)", q.controls(1, 1, 1), 1);
        due("controls(1, 1, 100)", q.controls(1, 1, 100), 99);
        due("controls(1, 1, 101)", q.controls(1, 1, 101), NONE);
        due("controls(1, 9, 12)", q.controls(1, 9, 12), 99);
        due("controls(1, 9, 13)", q.controls(1, 9, 13), NONE);
        due("controls(2, 1, 4)", q.controls(2, 1, 4), 1);
        due("controls(2, 1, 5)", q.controls(2, 1, 5), 2);
        // 1.1 to the 9 is above 2, below 3
        due("controls(9, 9, 2)", q.controls(9, 9, 2), 1);
        due("controls(9, 9, 1000)", q.controls(9, 9, 1000), 11);
        due("controls(0, 1, 1)", q.controls(0, 1, 1), BAD);
        due("controls(10, 1, 1)", q.controls(10, 1, 1), BAD);
        due("controls(1, 0, 1)", q.controls(1, 0, 1), BAD);
        due("controls(1, 10, 1)", q.controls(1, 10, 1), BAD);
        due("controls(1, 1, 0)", q.controls(1, 1, 0), BAD);
        due("controls(1, 1, 1001)", q.controls(1, 1, 1001), BAD);
    }

    private static void heap() {
        QuernGrains q = laid("g50,50,0,0;g25,25,50,0;g0,0,0,100;" + F);
        due("heap(0, 1, 1, 0, 0, 0)", q.heap(0, 1, 1, 0, 0, 0), 4);
        due("heap(0, 1, 1, 0, 0, 1)", q.heap(0, 1, 1, 0, 0, 1), 5);
        due("heap(2, 1, 1, 0, 0, 0)", q.heap(2, 1, 1, 0, 0, 0), 0);
        due("heap(2, 1, 1, 0, 0, 1)", q.heap(2, 1, 1, 0, 0, 1), 1);
        due("heap(1, 0, 0, 0, 0, 0)", q.heap(1, 0, 0, 0, 0, 0), 1);
        due("heap(1, 0, 0, 0, 0, 1)", q.heap(1, 0, 0, 0, 0, 1), 3);
        due("heap(0, 8, 0, 0, 0, 0)", q.heap(0, 8, 0, 0, 0, 0), 256);
        due("heap(0, 8, 0, 0, 0, 1)", q.heap(0, 8, 0, 0, 0, 1), 257);
        due("heap(0, 1, 0, 0, 1, 0)", q.heap(0, 1, 0, 0, 1, 0), NONE);
        due("heap(0, 1, 0, 0, 1, 1)", q.heap(0, 1, 0, 0, 1, 1), NONE);
        due("heap(0, 1, 0, 0, 1, 2)", q.heap(0, 1, 0, 0, 1, 2), BAD);
        due("heap(0, 1, 0, 0, 0, -1)", q.heap(0, 1, 0, 0, 0, -1), BAD);
        due("heap(3, 1, 0, 0, 0, 0)", q.heap(3, 1, 0, 0, 0, 0), BAD);
        due("heap(-1, 1, 0, 0, 0, 0)", q.heap(-1, 1, 0, 0, 0, 0), BAD);
        due("heap(0, 3, 3, 3, 0, 0)", q.heap(0, 3, 3, 3, 0, 0), BAD);
        due("heap(0, 2, 2, 2, 2, 1)", q.heap(0, 2, 2, 2, 2, 1), NONE);
        due("heap(0, -1, 2, 2, 2, 0)", q.heap(0, -1, 2, 2, 2, 0), BAD);
        due("heap(0, 0, 0, 0, -1, 0)", q.heap(0, 0, 0, 0, -1, 0), BAD);
        int max = Integer.MAX_VALUE;
        due("heap(0, max, max, 2, 0, 0)", q.heap(0, max, max, 2, 0, 0), BAD);
        // the greatest sum: six times 100 to the 8
        q = laid(times("g0,0,0,100;", 6) + F);
        due("heap(5, 0, 0, 0, 8, 1)", q.heap(5, 0, 0, 0, 8, 1), 6);
        q = laid("g0,0,0,100;g0,0,1,99;" + F);
        due("heap(1, 0, 0, 0, 8, 0)", q.heap(1, 0, 0, 0, 8, 0), 9227446944279201L);
        due("heap(1, 0, 0, 0, 8, 1)", q.heap(1, 0, 0, 0, 8, 1), 19227446944279201L);
    }

    private static void most() {
        QuernGrains q = laid("g50,50,0,0;g25,25,50,0;g50,50,0,0;g0,0,50,50;" + F);
        due("most(1, 1, 0, 0)", q.most(1, 1, 0, 0), 0);
        due("most(0, 0, 1, 0)", q.most(0, 0, 1, 0), 1);
        due("most(1, 0, 1, 0)", q.most(1, 0, 1, 0), 1);
        due("most(0, 0, 1, 1)", q.most(0, 0, 1, 1), 3);
        due("most(1, 0, 0, 1)", q.most(1, 0, 0, 1), NONE);
        due("most(0, 0, 0, 0)", q.most(0, 0, 0, 0), 0);
        due("most(4, 4, 0, 0)", q.most(4, 4, 0, 0), 0);
        due("most(4, 4, 1, 0)", q.most(4, 4, 1, 0), BAD);
        due("most(9, -1, 0, 0)", q.most(9, -1, 0, 0), BAD);
        due("most(0, 0, -1, 0)", q.most(0, 0, -1, 0), BAD);
    }

    private static void shares() {
        QuernGrains q = laid("g100,0,0,0;g0,100,0,0;g100,0,0,0;g0,0,0,100;" + F);
        due("shares(0, 1, 1, 1, 0, 0)", q.shares(0, 1, 1, 1, 0, 0), 5);
        due("shares(0, 1, 3, 1, 0, 0)", q.shares(0, 1, 3, 1, 0, 0), 7);
        due("shares(1, 0, 3, 1, 0, 0), 2 and 3: 2 * 512 is below 3 * 343", q.shares(1, 0, 3, 1, 0, 0), 3);
        due("shares(1, 0, 2, 1, 0, 0), 49 * 3 and 36 * 4", q.shares(1, 0, 2, 1, 0, 0), 3);
        due("shares(0, 1, 6, 0, 0, 0)", q.shares(0, 1, 6, 0, 0, 0), 10);
        due("shares(0, 1, 0, 6, 0, 0)", q.shares(0, 1, 0, 6, 0, 0), 0);
        due("shares(0, 2, 6, 0, 0, 0), all alike", q.shares(0, 2, 6, 0, 0, 0), 0);
        due("shares(0, 1, 0, 0, 0, 1), all 0", q.shares(0, 1, 0, 0, 0, 1), 0);
        due("shares(0, 1, 0, 0, 0, 0)", q.shares(0, 1, 0, 0, 0, 0), 0);
        due("shares(0, 1, 7, 0, 0, 0)", q.shares(0, 1, 7, 0, 0, 0), BAD);
        due("shares(0, 1, 2, 2, 2, 1)", q.shares(0, 1, 2, 2, 2, 1), BAD);
        due("shares(0, 1, -1, 2, 2, 1)", q.shares(0, 1, -1, 2, 2, 1), BAD);
        due("shares(1, 1, 1, 0, 0, 0)", q.shares(1, 1, 1, 0, 0, 0), BAD);
        due("shares(4, 1, 1, 0, 0, 0)", q.shares(4, 1, 1, 0, 0, 0), BAD);
        due("shares(1, 4, 1, 0, 0, 0)", q.shares(1, 4, 1, 0, 0, 0), BAD);
        due("shares(-1, 1, 1, 0, 0, 0)", q.shares(-1, 1, 1, 0, 0, 0), BAD);
    }

    private static void kin() {
        // a chain 5, 3, 1, 4, 2, 0 with 10 between neighbours
        QuernGrains q = laid("g75,25,0,0;g90,10,0,0;g80,20,0,0;g95,5,0,0;g85,15,0,0;g100,0,0,0;" + F);
        due("kin(10, -1)", q.kin(10, -1), 1);
        due("kin(9, -1)", q.kin(9, -1), 6);
        due("kin(9, 5)", q.kin(9, 5), 5);
        for (int s = 0; s < 6; s++) {
            due("kin(10, " + s + ")", q.kin(10, s), 0);
        }
        q = laid("g100,0,0,0;g0,0,0,100;g100,0,0,0;g0,0,1,99;" + F);
        due("kin(0, -1)", q.kin(0, -1), 3);
        due("kin(0, 2)", q.kin(0, 2), 0);
        due("kin(1, 3)", q.kin(1, 3), 3);
        due("kin(2, 3)", q.kin(2, 3), 1);
        due("kin(199, -1)", q.kin(199, -1), 2);
        due("kin(200, -1)", q.kin(200, -1), 1);
        due("kin(200, 3)", q.kin(200, 3), 0);
        due("kin(201, -1)", q.kin(201, -1), BAD);
        due("kin(-1, -1)", q.kin(-1, -1), BAD);
        due("kin(0, 4)", q.kin(0, 4), BAD);
        due("kin(0, -2)", q.kin(0, -2), BAD);
    }

    private static void cooked() {
        QuernGrains q = laid("g33,33,33,1;g0,33,33,34;g17,33,33,17;" + F);
        int[] half = {17, 33, 33, 17, 2};
        int[] whole = {0, 33, 33, 34, 1};
        int[] raw = {33, 33, 33, 1, 0};
        for (int wave = 0; wave <= 4; wave++) {
            due("cooked(0, 50, " + wave + ")", q.cooked(0, 50, wave), half[wave]);
            due("cooked(0, 100, " + wave + ")", q.cooked(0, 100, wave), whole[wave]);
            due("cooked(0, 0, " + wave + ")", q.cooked(0, 0, wave), raw[wave]);
        }
        // of 33 grains 3 hundredths are 0.99: none goes
        due("cooked(0, 3, 0)", q.cooked(0, 3, 0), 33);
        due("cooked(0, 4, 0)", q.cooked(0, 4, 0), 32);
        due("cooked(3, 4, 0)", q.cooked(3, 4, 0), BAD);
        due("cooked(-1, 4, 0)", q.cooked(-1, 4, 0), BAD);
        due("cooked(0, 101, 0)", q.cooked(0, 101, 0), BAD);
        due("cooked(0, -1, 0)", q.cooked(0, -1, 0), BAD);
        due("cooked(0, 4, 5)", q.cooked(0, 4, 5), BAD);
        due("cooked(0, 4, -1)", q.cooked(0, 4, -1), BAD);
        q = laid("g0,100,0,0;g100,0,0,0;g0,100,0,0;" + F);
        due("cooked(1, 50, 4), the lowest of several", q.cooked(1, 50, 4), 0);
        due("cooked(1, 49, 4)", q.cooked(1, 49, 4), 1);
    }

    private static void count() {
        QuernGrains q = laid(G + G + F + F);
        due("count(0, 0, 99)", q.count(0, 0, 99), 0);
        due("count(0, 0, 0)", q.count(0, 0, 0), 99);
        due("count(0, 0, 5)", q.count(0, 0, 5), 0);
        due("count(0, 1, 7)", q.count(0, 1, 7), 0);
        due("count(1, 0, 100)", q.count(1, 0, 100), BAD);
        due("count(1, 0, -1)", q.count(1, 0, -1), BAD);
        due("count(1, 2, 1)", q.count(1, 2, 1), BAD);
        due("count(1, -1, 1)", q.count(1, -1, 1), BAD);
        due("count(2, 0, 1)", q.count(2, 0, 1), BAD);
        due("count(-1, 0, 1)", q.count(-1, 0, 1), BAD);
        due("face(1, 4), nothing changed", q.face(1, 4), 0);
        due("count(0, 0, 5)", q.count(0, 0, 5), 5);
        due("count(1, 0, 0)", q.count(1, 0, 0), 0);
        due("face(1, 4)", q.face(1, 4), 1);
    }

    private static void books() {
        QuernGrains q = laid(G + G + "f0,3,2,1;f0,3,3,14;f0,2,1,1;f0,3,1,0;");
        due("books(0, 0, -1, true)", q.books(0, 0, -1, true), 10000);
        due("books(0, 0, 3, true)", q.books(0, 0, 3, true), 9);
        due("books(0, 0, 3, false)", q.books(0, 0, 3, false), 0);
        q.count(2, 0, 50);
        due("books(0, 0, -1, true), only controls are asked", q.books(0, 0, -1, true), 10000);
        q.count(0, 0, 8);
        due("books(0, 0, -1, true)", q.books(0, 0, -1, true), 1000);
        due("books(0, 0, 0, true)", q.books(0, 0, 0, true), 4);
        due("books(0, 0, 0, false)", q.books(0, 0, 0, false), 4);
        due("books(0, 1, 0, true)", q.books(0, 1, 0, true), 4);
        due("books(0, 2, 0, true)", q.books(0, 2, 0, true), 5);
        due("books(0, 2, 0, false)", q.books(0, 2, 0, false), 3);
        due("books(1, 0, 0, true), of the other sort 0 was read", q.books(1, 0, 0, true), 0);
        due("books(1, 0, -1, true)", q.books(1, 0, -1, true), 1000);
        // steps 1 to 3 together 2: six rows
        q.count(1, 0, 6);
        due("books(0, 0, -1, false)", q.books(0, 0, -1, false), 6);
        due("books(0, 0, 3, true)", q.books(0, 0, 3, true), 2);
        due("books(0, 99, -1, false)", q.books(0, 99, -1, false), 10000);
        q.count(1, 0, 7);
        due("books(0, 0, -1, false)", q.books(0, 0, -1, false), 0);
        due("books(0, 0, 1, false)", q.books(0, 0, 1, false), NONE);
        due("books(0, 0, 1, true)", q.books(0, 0, 1, true), NONE);
        q.count(1, 0, 81);
        due("books(0, 0, -1, false)", q.books(0, 0, -1, false), 1);
        due("books(0, 0, 2, false)", q.books(0, 0, 2, false), 9);
        // a control that went through no step bears nothing by any book
        q.count(3, 0, 3);
        due("books(0, 2, -1, false)", q.books(0, 2, -1, false), 0);
        due("books(0, 3, -1, false)", q.books(0, 3, -1, false) > 0 ? 1 : 0, 1);
        due("books(2, 0, -1, false)", q.books(2, 0, -1, false), BAD);
        due("books(-1, 0, -1, false)", q.books(-1, 0, -1, false), BAD);
        due("books(0, 100, -1, false)", q.books(0, 100, -1, false), BAD);
        due("books(0, -1, -1, false)", q.books(0, -1, -1, false), BAD);
        due("books(0, 0, 4, false)", q.books(0, 0, 4, false), BAD);
        due("books(0, 0, -2, false)", q.books(0, 0, -2, false), BAD);
        // washing is not asked
        q = laid(G + "f0,3,1,1;b0,0,3;w0,99;");
        q.count(0, 0, 7);
        due("books(0, 0, 0, false)", q.books(0, 0, 0, false), 7);
        // two controls of the same steps that do not agree
        q = laid(G + "f0,3,1,8;f0,3,1,8;");
        q.count(0, 0, 3);
        q.count(1, 0, 6);
        due("books(0, 1, -1, true)", q.books(0, 1, -1, true), 0);
        due("books(0, 2, -1, true)", q.books(0, 2, -1, true), 2000);
        due("books(0, 2, 3, true)", q.books(0, 2, 3, true), 5);
        due("books(0, 2, 3, false)", q.books(0, 2, 3, false), 4);
    }

    private static void ground() {
        QuernGrains q = laid(G + G + "f0,0,4,3;f0,3,2,1;f0,3,1,2;");
        due("ground(0, 0, 0, true), nothing is counted", q.ground(0, 0, 0, true), 0);
        q.count(0, 0, 40);
        due("ground(0, 0, 0, true)", q.ground(0, 0, 0, true), 40);
        due("ground(0, 0, 0, false)", q.ground(0, 0, 0, false), 0);
        q.count(1, 0, 6);
        q.count(2, 0, 1);
        due("ground(0, 0, 0, true)", q.ground(0, 0, 0, true), 24);
        due("ground(0, 0, 0, false)", q.ground(0, 0, 0, false), 24);
        due("ground(0, 0, 1, false)", q.ground(0, 0, 1, false), 20);
        due("ground(0, 0, 1, true)", q.ground(0, 0, 1, true), 28);
        due("ground(0, 0, 2, true)", q.ground(0, 0, 2, true), 32);
        due("ground(1, 0, 0, true), on a control", q.ground(1, 0, 0, true), 0);
        due("ground(1, 0, 2, true)", q.ground(1, 0, 2, true), 2);
        // the controls are READ, though only of sort 0: of sort 1 their COUNTS are 0, so nothing came by the book
        q.count(0, 1, 5);
        due("ground(0, 1, 0, false)", q.ground(0, 1, 0, false), 5);
        due("ground(0, 1, 1, false), N 1 at step 1 fits", q.ground(0, 1, 1, false), 1);
        due("books(1, 0, -1, true)", q.books(1, 0, -1, true), 100);
        q.count(2, 0, 10);
        due("ground(0, 0, 0, true)", q.ground(0, 0, 0, true), NONE);
        due("ground(0, 0, 0, false)", q.ground(0, 0, 0, false), NONE);
        due("ground(3, 0, 0, true)", q.ground(3, 0, 0, true), BAD);
        due("ground(-1, 0, 0, true)", q.ground(-1, 0, 0, true), BAD);
        due("ground(0, 2, 0, true)", q.ground(0, 2, 0, true), BAD);
        due("ground(0, -1, 0, true)", q.ground(0, -1, 0, true), BAD);
        due("ground(0, 0, 100, true)", q.ground(0, 0, 100, true), BAD);
        due("ground(0, 0, -1, true)", q.ground(0, 0, -1, true), BAD);
    }

    private static void sureAndEaten() {
        QuernGrains q = laid(times(G, 6) + "f0,0,1,1;f0,3,1,1;");
        promise = 20;
        due("sure(0, 0)", q.sure(0, 0), 0);
        for (int s = 0; s < 6; s++) {
            q.count(0, s, 5);
            q.count(1, s, 2 + s);
        }
        // of sort s 3 less s were ground, with e 1 at least 2 less s
        due("sure(0, 0)", q.sure(0, 0), 7);
        due("sure(0, 1)", q.sure(0, 1), 3);
        due("sure(0, 3)", q.sure(0, 3), 0);
        q.count(1, 0, 11);
        due("sure(0, 0), of sort 0 no book fits", q.sure(0, 0), 6);
        q.count(1, 5, 1);
        due("sure(0, 0)", q.sure(0, 0), 38);
        due("sure(2, 0)", q.sure(2, 0), BAD);
        due("sure(-1, 0)", q.sure(-1, 0), BAD);
        due("sure(0, 100)", q.sure(0, 100), BAD);
        due("sure(0, -1)", q.sure(0, -1), BAD);
        promise = 27;
        due("eaten(0, 0), nothing is in", q.eaten(0, 0), 0);
        q.teeth(44);
        due("eaten(0, 0)", q.eaten(0, 0), 36);
        due("eaten(0, 3)", q.eaten(0, 3), 32);
        due("eaten(1, 0)", q.eaten(1, 0), 0);
        due("eaten(2, 0)", q.eaten(2, 0), BAD);
        due("eaten(-1, 0)", q.eaten(-1, 0), BAD);
        due("eaten(0, 100)", q.eaten(0, 100), BAD);
        due("eaten(0, -1)", q.eaten(0, -1), BAD);
    }

    private static void leave() {
        QuernGrains q = laid(G + G + F + "b0,0,1;b0,1,1;b1,0,2;b2,0,5;b2,1,9;t0,10,0;t1,10,0;t2,50,1;t3,99,0;");
        due("leave(0, 0)", q.leave(0, 0), 3);
        due("leave(0, 1)", q.leave(0, 1), 14);
        due("leave(20, 0)", q.leave(20, 0), 3);
        due("leave(21, 0)", q.leave(21, 0), 11);
        due("leave(119, 0)", q.leave(119, 0), 11);
        due("leave(119, 1)", q.leave(119, 1), 14);
        due("leave(120, 0)", q.leave(120, 0), NONE);
        due("leave(120, 1)", q.leave(120, 1), NONE);
        due("leave(-1, 0)", q.leave(-1, 0), BAD);
        due("leave(400, 0)", q.leave(400, 0), BAD);
        due("leave(0, 2)", q.leave(0, 2), BAD);
        due("leave(0, -1)", q.leave(0, -1), BAD);
        // of several the least bits; the last row of a step counts
        q = laid(G + F + "t0,5,1;t1,5,0;t2,5,0;t0,6,0;t3,9,0;t3,0,1;");
        due("leave(5, 0)", q.leave(5, 0), 1);
        due("leave(6, 0)", q.leave(6, 0), 1);
        due("leave(7, 0)", q.leave(7, 0), 3);
        due("leave(16, 0)", q.leave(16, 0), 7);
        due("leave(17, 0)", q.leave(17, 0), NONE);
        q = laid(G + F + "t0,99,0;t1,99,0;t2,99,0;t3,99,0;");
        due("leave(396, 0)", q.leave(396, 0), 15);
        due("leave(399, 0)", q.leave(399, 0), NONE);
    }

    private static void blind() {
        QuernGrains q = laid(G + G + F);
        due("blind(2, 0)", q.blind(2, 0), BAD);
        due("blind(0, 2)", q.blind(0, 2), BAD);
        due("blind(-1, 0)", q.blind(-1, 0), BAD);
        due("blind(0, -1)", q.blind(0, -1), BAD);
        due("size(3)", q.size(3), 0);
        for (int i = 1; i <= 100; i++) {
            due("blind(0, 1)", q.blind(0, 1), i);
            due("blind(1, 1)", q.blind(1, 1), i);
        }
        due("blind(0, 0) at 200", q.blind(0, 0), FULL);
        due("blind(0, 1) at 200", q.blind(0, 1), FULL);
        due("blind(2, 1) at 200", q.blind(2, 1), BAD);
        due("size(3)", q.size(3), 200);
        due("slips(0, 0, 0), nothing changed", q.slips(0, 0, 0), 0);
    }

    private static void slipsLeanRight() {
        QuernGrains q = laid(G + G + G + F);
        promise = 23;
        due("slips(0, 0, 0)", q.slips(0, 0, 0), NONE);
        due("slips(0, 0, 2)", q.slips(0, 0, 2), BAD);
        promise = 24;
        due("lean(0)", q.lean(0), 0);
        promise = 25;
        due("right(0, 5)", q.right(0, 5), NONE);
        due("right(0, 1000)", q.right(0, 1000), BAD);
        // six were 0: four called 1, two called 0; one was 1, called 2
        int[][] told = {{0, 1}, {0, 1}, {0, 0}, {0, 1}, {0, 1}, {0, 0}, {1, 2}};
        for (int[] row : told) {
            q.blind(row[0], row[1]);
        }
        promise = 23;
        due("slips(0, 1, 0)", q.slips(0, 1, 0), 2);
        due("slips(0, 1, 1)", q.slips(0, 1, 1), 3);
        due("slips(0, 0, 0)", q.slips(0, 0, 0), 1);
        due("slips(0, 0, 1)", q.slips(0, 0, 1), 3);
        due("slips(0, 2, 0)", q.slips(0, 2, 0), 0);
        due("slips(0, 2, 1)", q.slips(0, 2, 1), 1);
        due("slips(1, 2, 1)", q.slips(1, 2, 1), 1);
        due("slips(2, 2, 0)", q.slips(2, 2, 0), NONE);
        due("slips(3, 0, 0)", q.slips(3, 0, 0), BAD);
        due("slips(0, 3, 0)", q.slips(0, 3, 0), BAD);
        due("slips(-1, 0, 0)", q.slips(-1, 0, 0), BAD);
        due("slips(0, -1, 0)", q.slips(0, -1, 0), BAD);
        due("slips(0, 0, -1)", q.slips(0, 0, -1), BAD);
        promise = 24;
        due("lean(0)", q.lean(0), -4);
        due("lean(1)", q.lean(1), 3);
        due("lean(2)", q.lean(2), 1);
        due("lean(3)", q.lean(3), -1000);
        due("lean(-1)", q.lean(-1), -1000);
        promise = 25;
        due("right(0, 10)", q.right(0, 10), 30);
        due("right(0, 999)", q.right(0, 999), 2997);
        due("right(1, 10), 10 by 4", q.right(1, 10), 2);
        due("right(1, 0)", q.right(1, 0), 0);
        due("right(2, 10)", q.right(2, 10), 0);
        due("right(3, 10)", q.right(3, 10), BAD);
        due("right(-1, 10)", q.right(-1, 10), BAD);
        due("right(0, -1)", q.right(0, -1), BAD);
    }

    private static void teeth() {
        QuernGrains q = laid(times(G, 6) + F);
        due("teeth(63)", q.teeth(63), 0);
        due("teeth(64)", q.teeth(64), BAD);
        due("teeth(-1)", q.teeth(-1), BAD);
        due("teeth(5)", q.teeth(5), 63);
        due("teeth(0)", q.teeth(0), 5);
        q = laid(G + G + F);
        due("teeth(4)", q.teeth(4), BAD);
        due("teeth(3)", q.teeth(3), 0);
    }

    private static void next() {
        QuernGrains q = laid(G + "f0,0,9,0;f1,0,1,0;f1,1,2,0;f2,2,3,0;f2,0,1,0;f2,0,1,0;f1,3,1,0;");
        due("next(), none is read", q.next(), 0);
        q.count(2, 0, 0);
        due("next(), stone 1 has 2", q.next(), 1);
        q.count(3, 0, 1);
        due("next(), stone 2 has 3", q.next(), 4);
        q.count(6, 0, 1);
        due("next(), stones 1 and 2 have 3", q.next(), 1);
        q.count(1, 0, 1);
        due("next(), 1 is read", q.next(), 4);
        q.count(4, 0, 1);
        due("next(), 4 is read", q.next(), 5);
        q.count(5, 0, 1);
        due("next(), 5 is read", q.next(), 0);
        q.count(0, 0, 1);
        due("next(), all are read", q.next(), NONE);
        due("next() without worn ones", laid(G + "f0,1,1,0;f0,2,1,0;f0,3,1,0;").next(), NONE);
        q = laid(G + "f1,3,1,0;f0,0,1,0;f1,0,1,0;");
        due("next()", q.next(), 1);
        q.count(0, 0, 1);
        due("next()", q.next(), 2);
        // worn ones that are read add no area
        q = laid(G + "f0,0,1,0;f1,0,9,0;f1,0,1,0;");
        q.count(1, 0, 1);
        due("next()", q.next(), 0);
    }

    private static void keepAndBack() {
        QuernGrains q = laid(G + G + F + F);
        promise = 30;
        due("back()", q.back(), NO);
        q.count(0, 0, 5);
        q.blind(0, 1);
        q.teeth(1);
        promise = 29;
        due("keep()", q.keep(), 1);
        q.count(0, 0, 6);
        q.count(1, 1, 7);
        q.blind(0, 1);
        q.blind(1, 1);
        q.teeth(2);
        due("keep()", q.keep(), 2);
        q.count(0, 0, 8);
        due("keep()", q.keep(), FULL);
        due("size(4)", q.size(4), 2);
        promise = 30;
        due("back()", q.back(), 1);
        due("size(5)", q.size(5), 2);
        due("size(3)", q.size(3), 3);
        due("teeth(0)", q.teeth(0), 2);
        due("count(0, 0, 1), the refused one was not kept", q.count(0, 0, 1), 6);
        due("back()", q.back(), 0);
        due("size(5)", q.size(5), 1);
        due("size(3)", q.size(3), 1);
        due("lean(1)", q.lean(1), 1);
        due("teeth(0)", q.teeth(0), 1);
        due("count(0, 0, 1)", q.count(0, 0, 1), 5);
        due("count(1, 1, 1)", q.count(1, 1, 1), 0);
        due("back()", q.back(), NO);
        due("count(0, 0, 1), nothing changed", q.count(0, 0, 1), 1);
        promise = 29;
        due("keep()", q.keep(), 1);
        due("keep()", q.keep(), 2);
        q.wipe();
        promise = 30;
        due("back(), the text is not kept", q.back(), 1);
        due("size(2)", q.size(2), 0);
    }

    private static void size() {
        QuernGrains q = laid(G + G + G + F + F);
        q.count(1, 0, 4);
        q.count(1, 1, 4);
        q.blind(0, 0);
        q.blind(1, 2);
        q.keep();
        int[] sizes = {3, 2, 51, 2, 1, 1};
        for (int what = 0; what <= 5; what++) {
            due("size(" + what + ")", q.size(what), sizes[what]);
        }
        due("size(6)", q.size(6), BAD);
        due("size(-1)", q.size(-1), BAD);
        write(q, "g");
        due("size(2)", q.size(2), 52);
    }

    /** As many sorts, patches, counts as there may be: all rows are used to their ends. */
    private static void fullest() {
        StringBuilder text = new StringBuilder();
        for (int s = 0; s < 6; s++) {
            text.append("g").append(10 * s).append(",").append(50 - 10 * s).append(",0,50;");
        }
        for (int f = 0; f < 10; f++) {
            text.append("f7,").append(f == 9 ? 0 : 3).append(",9,15;");
        }
        for (int s = 0; s < 6; s++) {
            text.append("u9,").append(s).append(",60;").append("b3,").append(s).append(",9;");
        }
        QuernGrains q = laid(text + "x5,4,99;x4,5,99;w3,50;t3,99,0;");
        for (int f = 0; f < 10; f++) {
            for (int s = 0; s < 6; s++) {
                due("count(" + f + ", " + s + ", 99)", q.count(f, s, 99), 0);
            }
        }
        due("lies(9, 5, -1)", q.lies(9, 5, -1), 111);
        due("read(9, 9999, 0)", q.read(9, 9999, 0), 111);
        due("read(9, 0, 4) and (9, 0, 5)", q.read(9, 0, 4) + q.read(9, 0, 5), 222);
        due("heap(5, 0, 0, 0, 8, 1)", q.heap(5, 0, 0, 0, 8, 1), 6);
        due("most(8, 0, 0, 0)", q.most(8, 0, 0, 0), 5);
        due("shares(5, 4, 0, 0, 0, 6)", q.shares(5, 4, 0, 0, 0, 6), 0);
        due("kin(20, 5)", q.kin(20, 5), 0);
        due("kin(19, -1)", q.kin(19, -1), 6);
        due("cooked(5, 100, 4)", q.cooked(5, 100, 4), 0);
        // rows of 11 together: 364, less 16 with an N above 9
        due("books(5, 0, -1, true)", q.books(5, 0, -1, true), 348);
        due("ground(9, 5, 0, true)", q.ground(9, 5, 0, true), 0);
        due("ground(9, 5, 9, true)", q.ground(9, 5, 9, true), 9);
        due("sure(9, 0)", q.sure(9, 0), 0);
        due("leave(99, 0)", q.leave(99, 0), 8);
        due("leave(0, 1)", q.leave(0, 1), 0);
        due("next()", q.next(), NONE);
        due("size(5)", q.size(5), 10);
        due("blind(5, 5)", q.blind(5, 5), 1);
        due("lean(5)", q.lean(5), 0);
        due("keep()", q.keep(), 1);
        q.count(9, 5, 0);
        due("next()", q.next(), NONE);
        due("back()", q.back(), 0);
        due("count(9, 5, 0)", q.count(9, 5, 0), 99);
        due("lay()", q.lay(), 10);
        due("count(9, 5, 0)", q.count(9, 5, 0), 0);
        due("next()", q.next(), NONE);
        due("lean(5)", q.lean(5), 0);
    }

    /** The run that README.md shows. */
    private static void readme() {
        QuernGrains q = laid("g60,30,10,0;f0,0,4,3;f0,3,2,3;u0,0,20;b0,0,2;");
        due("lies(0, 0, -1)", q.lies(0, 0, -1), 28);
        due("count(1, 0, 4)", q.count(1, 0, 4), 0);
        due("count(0, 0, 28)", q.count(0, 0, 28), 0);
        due("books(0, 0, -1, false)", q.books(0, 0, -1, false), 300);
        due("ground(0, 0, 0, false)", q.ground(0, 0, 0, false), 20);
        due("sure(0, 0)", q.sure(0, 0), 1);
        due("keep()", q.keep(), 1);
        due("count(1, 0, 99)", q.count(1, 0, 99), 4);
        due("ground(0, 0, 0, false)", q.ground(0, 0, 0, false), NONE);
        due("back()", q.back(), 0);
    }

    private static void askFirstHalf() {
        promise = 1; newObject();
        promise = 2; write();
        promise = 3; wipe();
        promise = 4; faultOfForm(); faultOfNumbers();
        promise = 5; lay();
        promise = 6; face();
        promise = 7; lies();
        promise = 8; read();
        promise = 9; more();
        promise = 10; says();
        promise = 11; controls();
        promise = 12; heap();
        promise = 13; most();
        promise = 14; shares();
        promise = 15; kin();
        promise = 16; cooked();
    }

    public static void main(String[] args) {
        askFirstHalf();
        promise = 17; count();
        promise = 18; books();
        promise = 19; ground();
        promise = 20; sureAndEaten();
        promise = 21; leave();
        promise = 22; blind();
        promise = 23; slipsLeanRight();
        promise = 26; teeth();
        promise = 28; next();
        promise = 29; keepAndBack();
        promise = 31; size();
        promise = 5; fullest();
        promise = 19; readme();
        System.out.println(wrong == 0 ? asked + " answers are as due" : wrong + " answers are not as due");
        if (wrong != 0) {
            System.exit(1);
        }
    }
}
