/**
 * Each argument of each promise: the least and the greatest number that it may have, with the answer worked
 * out by hand; the numbers just outside and the ends of int are BAD, and nothing changes by them.
 */
public final class EdgesTest {
    private static final int BAD = -1, NONE = -4;

    /** As many sorts and patches as there may be. */
    private static final String FULLEST = "text:g100,0,0,0;g90,10,0,0;g0,100,0,0;g0,0,100,0;g0,0,0,100;g25,25,25,25;"
        + "f0,0,1,0;f7,3,9,15;f1,3,1,1;f1,3,1,2;f1,3,1,4;f1,3,1,8;f1,0,2,3;f2,1,3,5;f2,2,9,15;f7,0,9,15;"
        + "u0,0,60;u9,5,60;u0,5,1;b0,0,9;b0,5,1;b1,0,2;b3,5,9;w1,50;w3,99;"
        + "t0,1,0;t1,99,0;t2,99,0;t3,99,1;x0,1,99;x5,4,50;x5,0,50;";

    /** Of sort 5 the only book that fits without doubt is 1, 0, 0, 9; the text is another one than is laid. */
    private static final String[] WIDE = {FULLEST, "lay()", "wipe()", "text:g0,0,0,100;f3,1,4,1;u0,0,5;",
        "blind(0, 0)", "count(8, 3, 4)", "teeth(9)", "keep()",
        "count(2, 5, 1)", "count(3, 5, 0)", "count(4, 5, 0)", "count(5, 5, 9)",
        "count(0, 5, 2)", "count(9, 5, 99)", "count(9, 0, 3)",
        "blind(0, 5) times 2", "blind(5, 0)", "blind(5, 5) times 3", "teeth(33)"};

    /** One sort and one patch, as at first. */
    private static final String[] FIRST = {};

    /** One grain of sort 0 on patches 0 and 9, that the reader may call 1. */
    private static String[] reader(int slips) {
        return new String[] {"text:g100,0,0,0;g100,0,0,0;" + "f0,0,1,0;".repeat(10) + "u0,0,1;u9,0,1;x0,1," + slips + ";",
            "lay()"};
    }

    /** At # stands the argument that is tried. */
    private static void edge(String[] state, String call, long least, long dueLeast, long greatest, long dueGreatest) {
        inside(state, call.replace("#", Long.toString(least)), dueLeast);
        inside(state, call.replace("#", Long.toString(greatest)), dueGreatest);
        outside(state, call, Long.toString(least - 1), Long.toString(greatest + 1), "min", "max");
    }

    private static void inside(String[] state, String call, long due) {
        if (call.matches("(write|count|blind|teeth)\\(.*")) {
            Due.is(call, new Probe().after(state).ask(call), due);
        } else {
            Looks.unchangedBy(call, due, state);
        }
    }

    private static void outside(String[] state, String call, String... numbers) {
        for (String number : numbers) {
            Looks.unchangedBy(call.replace("#", number), call.startsWith("lean") ? -1000 : BAD, state);
        }
    }

    private static void bad(String[] state, String... calls) {
        for (String call : calls) {
            Looks.unchangedBy(call, BAD, state);
        }
    }

    private static void stones() {
        edge(WIDE, "write(#, 0)", 1, 28, 8, 35);
        edge(FIRST, "write(#, -1)", 1, 1, 8, 8);
        edge(WIDE, "face(#, 2)", 0, 1, 9, 9);
        edge(WIDE, "face(9, #)", 0, 7, 4, 1);
        edge(WIDE, "face(1, #)", 0, 7, 4, 0);
        edge(WIDE, "lies(#, 5, -1)", 0, 1, 9, 83);
        edge(WIDE, "lies(#, 0, 4)", 0, 60, 9, 0);
        edge(WIDE, "lies(9, #, -1)", 0, 2, 5, 83);
        // 60 of use: 30 are left at step 1, 1 at step 3; 9 of step 0: 5 and 1; 81 come at step 3
        edge(WIDE, "lies(9, 5, #)", -1, 83, 4, 1);
        inside(WIDE, "lies(9, 5, 0)", 1);
        inside(WIDE, "lies(9, 5, 1)", 0);
        inside(WIDE, "lies(9, 5, 3)", 81);
        edge(FIRST, "face(#, 2)", 0, 1, 0, 1);
        edge(FIRST, "lies(#, 0, -1)", 0, 0, 0, 0);
        edge(FIRST, "lies(0, #, 4)", 0, 0, 0, 0);
    }

    private static void draws() {
        // r of patch 0 by z 0 is 1, by z 9999 it is 3; of patch 9 by z 0 (x is 32140) it is 35
        edge(reader(1), "read(#, 0, 0)", 0, 1, 9, 1);
        edge(reader(2), "read(#, 0, 1)", 0, 1, 9, 0);
        edge(reader(35), "read(#, 0, 1)", 0, 1, 9, 0);
        edge(reader(36), "read(#, 0, 1)", 0, 1, 9, 1);
        edge(reader(3), "read(0, #, 1)", 0, 1, 9999, 0);
        edge(reader(4), "read(0, #, 1)", 0, 1, 9999, 1);
        edge(reader(0), "read(0, #, 0)", 0, 1, 9999, 1);
        // the last one of both counts
        String[] twice = {"text:g100,0,0,0;g100,0,0,0;f0,0,1,0;u0,0,1;x0,1,99;x0,1,3;", "lay()"};
        edge(twice, "read(0, #, 1)", 0, 1, 9999, 0);
        edge(reader(99), "read(0, 0, #)", 0, 0, 1, 1);
        edge(FIRST, "read(#, 0, 0)", 0, 0, 0, 0);
        edge(FIRST, "read(0, 9999, #)", 0, 0, 0, 0);
        edge(WIDE, "read(4, 0, #)", 0, 0, 5, 0);
        String sixSorts = "text:" + "g100,0,0,0;".repeat(6) + "f0,0,1,0;u0,5,1;x5,0,";
        edge(new String[] {sixSorts + "1;", "lay()"}, "read(0, 0, #)", 0, 0, 5, 1);
        edge(new String[] {sixSorts + "2;", "lay()"}, "read(0, 0, #)", 0, 1, 5, 0);
    }

    private static void chances() {
        edge(WIDE, "more(#, 1, 0, 1, 1)", 0, 1, 12, 4096);
        edge(WIDE, "more(#, 1, 6, 1, 1)", 0, 1, 6, 2048);
        edge(WIDE, "more(0, 1, #, 1, 0)", 0, 1, 12, 1);
        edge(WIDE, "more(1, 1, #, 1, 1)", 0, 2, 11, 4096);
        edge(WIDE, "more(12, 9, #, 9, 1)", 0, 4096, 0, 4096);
        // of 3 two or more, at 1 by 4: 10 by 64, at 3 by 4: 54 by 64
        edge(WIDE, "more(2, #, 1, 3, 0)", 1, 5, 9, 27);
        edge(WIDE, "more(2, 3, 1, #, 0)", 1, 27, 9, 5);
        edge(WIDE, "more(2, 1, 1, 3, #)", 0, 5, 1, 32);
        bad(WIDE, "more(max, 1, max, 1, 0)", "more(min, 1, min, 1, 0)", "more(max, 1, min, 1, 0)", "more(min, 1, max, 1, 0)");
        edge(WIDE, "says(#, 9, 100)", 1, 2, 9, 7);
        edge(WIDE, "says(9, #, 3)", 1, 11, 9, 2);
        edge(WIDE, "says(1, 1, #)", 1, 0, 1000, 10);
        edge(WIDE, "says(9, 1, #)", 1, 0, 1000, NONE);
        // 11 by 9 to the 12 is above 11, below 12: the greatest a there is
        inside(WIDE, "says(9, 2, 11)", 12);
        inside(WIDE, "says(9, 2, 12)", NONE);
        edge(WIDE, "controls(#, 1, 100)", 1, 99, 9, 1);
        edge(WIDE, "controls(2, #, 100)", 1, 9, 9, 81);
        edge(WIDE, "controls(9, 9, #)", 1, 1, 1000, 11);
        edge(WIDE, "controls(1, 9, #)", 1, 1, 1000, NONE);
        inside(WIDE, "controls(1, 1, 100)", 99);
        inside(WIDE, "controls(1, 1, 101)", NONE);
    }

    private static void heaps() {
        edge(WIDE, "heap(#, 1, 0, 0, 0, 0)", 0, 20, 5, 5);
        // by 5 each: 5 to the 8 by the sum of 20, 18 and 5, of 2, 20 and 5 to the 8
        edge(WIDE, "heap(5, #, 0, 0, 0, 1)", 0, 6, 8, 36620351201L);
        edge(WIDE, "heap(5, 0, #, 0, 0, 1)", 0, 6, 8, 25600390881L);
        edge(WIDE, "heap(5, 0, 0, #, 0, 1)", 0, 6, 8, 65537);
        edge(WIDE, "heap(5, 0, 0, 0, #, 1)", 0, 6, 8, 65537);
        edge(WIDE, "heap(5, 0, 0, 0, 1, #)", 0, 1, 1, 5);
        edge(WIDE, "heap(5, #, 2, 2, 2, 1)", 0, 1, 2, 1);
        edge(WIDE, "heap(5, 2, #, 2, 2, 1)", 0, 1, 2, 1);
        edge(WIDE, "heap(5, 2, 2, #, 2, 1)", 0, 1, 2, 1);
        edge(WIDE, "heap(5, 2, 2, 2, #, 1)", 0, 1, 2, 1);
        edge(FIRST, "heap(#, 8, 0, 0, 0, 1)", 0, 1, 0, 1);
        edge(WIDE, "most(#, 0, 0, 1)", 0, 4, 7, 5);
        edge(WIDE, "most(#, 0, 0, 0)", 0, 0, 8, 0);
        edge(WIDE, "most(0, #, 0, 0)", 0, 0, 8, 2);
        edge(WIDE, "most(0, 0, #, 0)", 0, 0, 8, 3);
        edge(WIDE, "most(0, 0, 0, #)", 0, 0, 8, 4);
        // four of them together wrap around to 0, two of max and 2 do, too
        String[] wraps = {"1073741824, 1073741824, 1073741824, 1073741824", "max, max, 2, 0", "0, 2, max, max", "min, min, 0, 0"};
        for (String wrap : wraps) {
            bad(WIDE, "heap(0, " + wrap + ", 0)", "most(" + wrap + ")", "shares(0, 1, " + wrap + ")");
        }
    }

    private static void mixes() {
        edge(WIDE, "shares(#, 2, 1, 1, 0, 0)", 0, 5, 5, 7);
        edge(WIDE, "shares(1, #, 1, 1, 0, 0)", 0, 10, 5, 6);
        edge(WIDE, "shares(0, 2, #, 1, 0, 0)", 0, 0, 5, 8);
        edge(WIDE, "shares(0, 2, #, 0, 0, 0)", 0, 0, 6, 10);
        edge(WIDE, "shares(2, 0, 0, #, 0, 0)", 0, 0, 6, 10);
        edge(WIDE, "shares(3, 0, 0, 0, #, 0)", 0, 0, 6, 10);
        edge(WIDE, "shares(4, 0, 0, 0, 0, #)", 0, 0, 6, 10);
        for (int s = 0; s < 6; s++) {
            bad(WIDE, "shares(" + s + ", " + s + ", 1, 0, 0, 0)");
        }
        bad(WIDE, "shares(-1, -1, 1, 0, 0, 0)", "shares(6, 6, 1, 0, 0, 0)");
        bad(FIRST, "shares(0, 0, 1, 0, 0, 0)", "shares(0, 1, 1, 0, 0, 0)", "shares(1, 0, 1, 0, 0, 0)");
        edge(WIDE, "kin(#, -1)", 0, 6, 200, 1);
        edge(WIDE, "kin(#, 5)", 0, 5, 200, 0);
        edge(WIDE, "kin(20, #)", -1, 5, 5, 5);
        inside(WIDE, "kin(20, 1)", 0);
        inside(WIDE, "kin(19, 1)", 1);
        edge(FIRST, "kin(0, #)", -1, 1, 0, 0);
        edge(WIDE, "cooked(#, 50, 3)", 0, 0, 5, 37);
        edge(WIDE, "cooked(5, #, 3)", 0, 25, 100, 50);
        edge(WIDE, "cooked(5, 50, #)", 0, 13, 4, 5);
        edge(WIDE, "cooked(0, #, 4)", 0, 0, 100, 2);
        edge(FIRST, "cooked(#, 100, 1)", 0, 100, 0, 100);
    }

    private static void counts() {
        edge(WIDE, "count(#, 5, 7)", 0, 2, 9, 99);
        edge(WIDE, "count(9, #, 7)", 0, 3, 5, 99);
        edge(WIDE, "count(9, 5, #)", 0, 99, 99, 99);
        edge(FIRST, "count(#, 0, 99)", 0, 0, 0, 0);
        edge(FIRST, "count(0, #, 0)", 0, 0, 0, 0);
        edge(WIDE, "books(#, 0, 3, true)", 0, 0, 5, 9);
        edge(WIDE, "books(5, #, -1, false)", 0, 1, 99, 10000);
        edge(WIDE, "books(5, 0, #, true)", -1, 1, 3, 9);
        edge(WIDE, "books(5, 0, #, false)", -1, 1, 3, 9);
        inside(WIDE, "books(5, 0, 0, false)", 1);
        // N of step 0 is 0 to 2, of steps 1 and 2 0 or 1, of step 3 8 or 9
        inside(WIDE, "books(5, 1, -1, false)", 24);
        edge(FIRST, "books(#, 0, -1, false)", 0, 10000, 0, 10000);
        edge(WIDE, "ground(#, 5, 0, true)", 0, 2, 9, 9);
        edge(WIDE, "ground(9, #, 0, false)", 0, 3, 5, 9);
        edge(WIDE, "ground(9, 5, #, true)", 0, 9, 99, 99);
        edge(WIDE, "ground(9, 5, #, false)", 0, 9, 99, 0);
        edge(FIRST, "ground(#, 0, 99, true)", 0, 0, 0, 0);
        edge(FIRST, "ground(0, #, 99, true)", 0, 0, 0, 0);
        edge(WIDE, "sure(#, 0)", 0, 32, 9, 33);
        edge(WIDE, "sure(9, #)", 0, 33, 99, 0);
        edge(WIDE, "sure(0, #)", 0, 32, 99, 32);
        edge(FIRST, "sure(#, 0)", 0, 0, 0, 0);
        edge(WIDE, "leave(#, 0)", 0, 3, 399, NONE);
        edge(WIDE, "leave(0, #)", 0, 3, 1, 9);
        inside(WIDE, "leave(199, 0)", 7);
        inside(WIDE, "leave(200, 1)", NONE);
        String[] hours = {"text:g100,0,0,0;f0,0,1,0;t0,99,0;t1,99,0;t2,99,0;t3,99,0;b3,0,9;", "lay()"};
        edge(hours, "leave(#, 0)", 0, 8, 399, NONE);
        inside(hours, "leave(396, 0)", 15);
        inside(hours, "leave(397, 0)", NONE);
    }

    /** One control, of which v was counted, and a worn patch with 99. */
    private static String[] oneControl(int area, int steps, int v) {
        return new String[] {"text:g100,0,0,0;f0,3," + area + "," + steps + ";f0,0,1,15;", "lay()",
            "count(0, 0, " + v + ")", "count(1, 0, 99)"};
    }

    /** Each N is 0 to 9, so that four of them are 0 to 36 together. */
    private static void books() {
        inside(oneControl(1, 15, 36), "books(0, 0, -1, true)", 1);
        inside(oneControl(1, 15, 36), "books(0, 0, 0, false)", 9);
        inside(oneControl(1, 15, 36), "ground(1, 0, 0, true)", 63);
        inside(oneControl(1, 15, 36), "ground(1, 0, 0, false)", 63);
        inside(oneControl(1, 15, 37), "books(0, 0, -1, true)", 0);
        inside(oneControl(1, 15, 37), "books(0, 0, 3, true)", NONE);
        inside(oneControl(1, 15, 37), "books(0, 1, -1, true)", 1);
        inside(oneControl(1, 15, 99), "books(0, 62, -1, true)", 0);
        inside(oneControl(1, 15, 99), "books(0, 63, -1, true)", 1);
        inside(oneControl(1, 15, 0), "books(0, 0, -1, true)", 1);
        inside(oneControl(1, 15, 0), "books(0, 0, 3, true)", 0);
        inside(oneControl(1, 15, 0), "ground(1, 0, 0, false)", 99);
        inside(oneControl(1, 15, 0), "books(0, 35, -1, true)", 9999);
        inside(oneControl(1, 15, 0), "books(0, 36, -1, true)", 10000);
        inside(oneControl(9, 8, 81), "books(0, 0, 3, false)", 9);
        inside(oneControl(9, 8, 82), "books(0, 0, 3, false)", NONE);
        inside(oneControl(9, 8, 90), "books(0, 8, -1, false)", 0);
        inside(oneControl(9, 8, 90), "books(0, 9, -1, false)", 1000);
        // 9 N are 5 to 95: only N 0 does not fit
        inside(oneControl(9, 1, 50), "books(0, 45, -1, true)", 9000);
        inside(oneControl(9, 1, 50), "books(0, 45, 0, false)", 1);
        // two N are 14 at most together: of 100 rows 10 do not fit
        inside(oneControl(1, 3, 7), "books(0, 7, -1, true)", 9000);
        // a control that went through no step bears 0 by each book
        inside(oneControl(9, 0, 0), "books(0, 0, -1, true)", 10000);
        inside(oneControl(9, 0, 1), "books(0, 0, -1, true)", 0);
        inside(oneControl(9, 0, 99), "books(0, 98, -1, true)", 0);
        inside(oneControl(9, 0, 99), "books(0, 99, -1, true)", 10000);
        // step 1 has 2, steps 1 and 2 have 5 together: step 2 has 3
        String[] two = {"text:g100,0,0,0;f0,3,1,2;f0,3,1,6;", "lay()", "count(0, 0, 2)", "count(1, 0, 5)"};
        inside(two, "books(0, 0, -1, true)", 100);
        inside(two, "books(0, 0, 2, false)", 3);
        inside(two, "books(0, 0, 2, true)", 3);
    }

    private static void readers() {
        edge(WIDE, "blind(#, 5)", 0, 3, 5, 4);
        edge(WIDE, "blind(5, #)", 0, 2, 5, 4);
        edge(FIRST, "blind(#, 0)", 0, 1, 0, 1);
        edge(FIRST, "blind(0, #)", 0, 1, 0, 1);
        // 0 was called 0, 5, 5; 5 was called 0, 5, 5, 5
        edge(WIDE, "slips(#, 5, 0)", 0, 2, 5, 3);
        edge(WIDE, "slips(0, #, 0)", 0, 1, 5, 2);
        edge(WIDE, "slips(5, 5, #)", 0, 3, 1, 4);
        edge(FIRST, "slips(#, 0, 0)", 0, NONE, 0, NONE);
        edge(FIRST, "slips(0, #, 0)", 0, NONE, 0, NONE);
        edge(WIDE, "lean(#)", 0, -1, 5, 1);
        edge(FIRST, "lean(#)", 0, 0, 0, 0);
        edge(WIDE, "right(#, 10)", 0, 15, 5, 8);
        edge(WIDE, "right(5, #)", 0, 0, 999, 799);
        edge(FIRST, "right(#, 999)", 0, NONE, 0, NONE);
        edge(WIDE, "teeth(#)", 0, 33, 63, 33);
        edge(FIRST, "teeth(#)", 0, 0, 1, 0);
        edge(WIDE, "eaten(#, 0)", 0, 32, 9, 33);
        edge(WIDE, "eaten(9, #)", 0, 33, 99, 0);
        edge(WIDE, "eaten(0, #)", 0, 32, 99, 32);
        edge(FIRST, "eaten(#, 0)", 0, 0, 0, 0);
        edge(WIDE, "size(#)", 0, 6, 5, 7);
        edge(FIRST, "size(#)", 0, 1, 5, 0);
    }

    public static void main(String[] args) {
        stones();
        draws();
        chances();
        heaps();
        mixes();
        counts();
        books();
        readers();
        Due.end();
    }
}
