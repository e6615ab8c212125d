/**
 * What is empty and what is full (THE TEXT, SORTS, PATCHES, BLIND, KEPT), calls that are refused there, which
 * refusal comes first, and that none of them changes anything.
 */
public final class FullAndEmptyTest {
    private static final int BAD = -1, NO = -2, FULL = -3, NONE = -4;
    private static final String G = "g100,0,0,0;", F = "f0,0,1,0;";

    private static final String[] FIRST = {};

    /** Everything is as full as it may be: 500 bytes, 6 sorts, 10 patches, 200 blind ones, 2 kept. */
    private static final String[] BRIM = {
        "text:" + G.repeat(5) + "g0,0,0,100;" + F.repeat(8) + "f1,3,1,15;f1,3,9,15;" + "u0,5,6;b0,5,1;w1,10;t1,9,0;t2,9,1;x5,0,99;",
        "text:" + "w3,99;".repeat(47) + "w3,9;w3,9;t3,99,0;", "lay()", "teeth(63)", "count(0, 5, 9)", "blind(5, 0)", "keep()",
        "blind(0, 5) times 199", "count(9, 5, 99)", "count(8, 0, 1)", "teeth(42)", "keep()", "count(7, 2, 3)"};

    /** Something of everything, and a text with a fault behind it that is not laid. */
    private static final String[] FAULTY = {"text:" + G + G + F + "f0,3,2,1;u0,1,7;", "lay()", "count(1, 1, 4)", "blind(0, 1)",
        "teeth(2)", "keep()", "count(0, 1, 9)", "wipe()", "text:" + G + G + G + F + F + F + "u0,2,61;"};

    /** Of sort 0 no book fits; nothing is blind. */
    private static final String[] NO_BOOK = {"text:" + G + "g0,100,0,0;f0,0,1,1;f0,3,9,1;t0,9,1;", "lay()", "count(1, 0, 1)", "count(0, 0, 9)"};

    private static void refused(String[] state, long answer, String... calls) {
        for (String call : calls) {
            Looks.unchangedBy(call, answer, state);
        }
    }

    private static void asks(Probe probe, String call, long due) {
        Due.is(call, probe.ask(call), due);
    }

    private static void emptyAtFirst() {
        for (int what = 2; what <= 5; what++) {
            refused(FIRST, 0, "size(" + what + ")");
        }
        refused(FIRST, NO, "lay()", "back()");
        refused(FIRST, NONE, "fault()", "heap(0, 0, 1, 0, 0, 0)", "heap(0, 7, 0, 0, 1, 1)", "most(0, 1, 0, 0)", "most(7, 0, 0, 1)",
            "says(9, 1, 1000)", "controls(1, 9, 1000)", "leave(1, 0)", "leave(399, 1)", "slips(0, 0, 0)", "slips(0, 0, 1)",
            "right(0, 0)", "right(0, 999)");
        refused(FIRST, 0, "wipe()", "lies(0, 0, -1)", "read(0, 0, 0)", "lean(0)", "sure(0, 0)", "eaten(0, 0)", "teeth(0)",
            "ground(0, 0, 0, true)", "leave(0, 0)", "leave(0, 1)", "next()", "books(0, 0, 0, false)");
        refused(FIRST, 1, "size(0)", "size(1)", "heap(0, 0, 0, 0, 0, 0)", "heap(0, 0, 0, 0, 0, 1)", "more(0, 1, 0, 1, 0)", "more(0, 1, 0, 1, 1)");
        refused(FIRST, 10000, "books(0, 0, -1, true)");
        refused(FIRST, 9, "books(0, 0, 3, true)");
    }

    private static void noneChangesNothing() {
        refused(NO_BOOK, NONE, "books(0, 0, 0, true)", "books(0, 0, 3, false)", "ground(0, 0, 0, true)", "ground(1, 0, 0, false)",
            "heap(0, 1, 1, 0, 0, 0)", "heap(1, 0, 0, 1, 0, 1)", "most(0, 0, 0, 1)", "most(1, 1, 0, 0)", "leave(1, 0)", "leave(9, 1)",
            "slips(1, 1, 0)", "right(1, 9)", "next()");
        refused(NO_BOOK, 0, "books(0, 0, -1, true)", "sure(0, 0)", "eaten(0, 0)");
        // with a doubt of 1 N is 0 at step 0
        refused(NO_BOOK, 1000, "books(0, 1, -1, true)");
        refused(NO_BOOK, 9, "ground(0, 0, 1, false)");
        refused(NO_BOOK, 1, "sure(0, 1)");
    }

    /** BAD comes ahead of NO, NONE and FULL. */
    private static void badComesFirst() {
        refused(FIRST, BAD, "heap(0, 0, 1, 0, 0, 2)", "heap(0, 0, 1, 0, 0, -1)", "heap(1, 0, 1, 0, 0, 0)", "heap(0, 0, 9, 0, 0, 0)",
            "heap(0, 0, 8, 1, 0, 0)", "most(0, 9, 0, 0)", "most(0, 8, 0, 1)", "says(9, 1, 1001)", "says(10, 1, 1000)",
            "controls(1, 9, 1001)", "controls(1, 10, 1000)", "controls(0, 9, 1000)", "leave(399, 2)", "leave(399, -1)", "leave(400, 0)",
            "slips(0, 0, 2)", "slips(1, 0, 0)", "slips(0, 1, 0)", "right(0, 1000)", "right(0, -1)", "right(1, 0)");
        refused(NO_BOOK, BAD, "books(0, 0, 4, true)", "books(0, 0, -2, true)", "books(0, 100, 0, true)", "books(0, -1, 0, true)",
            "books(2, 0, 0, true)", "ground(2, 0, 0, true)", "ground(0, 2, 0, true)", "ground(0, 0, 100, true)", "ground(0, 0, -1, true)");
        refused(BRIM, BAD, "write(0, 0)", "write(9, 0)", "write(-1, 0)", "write(max, 0)", "write(min, 0)",
            "blind(6, 0)", "blind(0, 6)", "blind(-1, 0)", "blind(0, -1)", "blind(max, min)");
    }

    private static void brim() {
        int[] sizes = {6, 10, 500, 200, 2, 4};
        for (int what = 0; what <= 5; what++) {
            refused(BRIM, sizes[what], "size(" + what + ")");
        }
        refused(BRIM, NONE, "fault()");
        refused(BRIM, FULL, "keep()", "blind(0, 0)", "blind(0, 5)", "blind(5, 5)", "blind(5, 0)");
        for (int n = 1; n <= 8; n++) {
            refused(BRIM, FULL, "write(" + n + ", 0)", "write(" + n + ", -1)");
        }
        // (5, 0) once, (0, 5) 199 times: the greatest numbers of blind ones
        refused(BRIM, 198, "lean(5)");
        refused(BRIM, -198, "lean(0)");
        refused(BRIM, 999 * 199, "right(0, 999)");
        refused(BRIM, 5, "right(5, 999)");
        refused(BRIM, 1, "slips(0, 5, 0)", "slips(0, 5, 1)", "slips(5, 0, 0)");
    }

    /** At each length near the end just as many bytes fit as there is room for. */
    private static void roomInTheText() {
        for (int room = 0; room <= 8; room++) {
            String[] state = {"text:" + "w".repeat(500 - room)};
            for (int n = 1; n <= 8; n++) {
                String call = "write(" + n + ", 7)";
                if (n > room) {
                    refused(state, FULL, call);
                } else {
                    asks(new Probe().after(state), call, 500 - room + n);
                }
            }
        }
        Probe probe = new Probe().after("text:" + "w".repeat(500));
        asks(probe, "wipe()", 500);
        asks(probe, "wipe()", 0);
        asks(probe, "size(2)", 0);
        asks(probe, "fault()", NONE);
        asks(probe, "write(8, 0)", 8);
        asks(probe, "fault()", 0);
        // of what was wiped nothing is read on
        probe = new Probe().after("text:" + G + F, "wipe()", "text:g100,0");
        asks(probe, "fault()", 0);
        probe.write(",0,0;");
        asks(probe, "fault()", NONE);
        asks(probe, "lay()", NO);
    }

    private static void refusedTexts() {
        refused(FAULTY, 60, "fault()");
        refused(FAULTY, NO, "lay()");
        for (String text : new String[] {"text:" + G.repeat(7) + F, "text:" + G + F.repeat(11), "text:" + G, "text:" + F, "text:" + G + F + "w"}) {
            refused(new String[] {"text:" + G + G + F + F + "u1,1,8;", "lay()", "count(1, 1, 3)", "keep()", "wipe()", text}, NO, "lay()");
        }
        // fewer sorts and patches than before: those that are no more are BAD, what was found of them is gone
        Probe probe = new Probe().after(BRIM).after("wipe()", "text:" + G + F);
        asks(probe, "lay()", 1);
        String[] bad = {"face(1, 0)", "lies(1, 0, 0)", "lies(0, 1, 0)", "count(0, 1, 0)", "count(1, 0, 0)", "blind(5, 0)", "cooked(1, 0, 0)",
            "kin(0, 1)", "teeth(2)", "sure(1, 0)", "eaten(9, 0)", "read(0, 0, 5)", "slips(0, 5, 0)", "right(5, 1)", "ground(1, 0, 0, true)",
            "books(1, 0, -1, true)", "heap(5, 0, 0, 0, 0, 0)", "shares(0, 1, 0, 0, 0, 0)"};
        for (String call : bad) {
            asks(probe, call, BAD);
        }
        asks(probe, "lean(1)", -1000);
        asks(probe, "back()", NO);
        asks(probe, "teeth(1)", 0);
        asks(probe, "count(0, 0, 9)", 0);
        asks(probe, "slips(0, 0, 0)", NONE);
        asks(probe, "keep()", 1);
    }

    private static void blindOnes() {
        Probe probe = new Probe().after("text:" + G + G + F, "lay()", "blind(0, 1) times 199");
        asks(probe, "keep()", 1);
        asks(probe, "blind(1, 1)", 1);
        asks(probe, "size(3)", 200);
        asks(probe, "blind(1, 1)", FULL);
        asks(probe, "back()", 0);
        asks(probe, "size(3)", 199);
        asks(probe, "blind(0, 1)", 200);
        asks(probe, "blind(0, 1)", FULL);
        asks(probe, "slips(0, 1, 1)", 1);
        asks(probe, "lean(1)", 200);
        asks(probe, "lean(0)", -200);
        asks(probe, "right(1, 999)", 0);
        asks(probe, "right(0, 999)", NONE);
        asks(probe, "lay()", 1);
        asks(probe, "size(3)", 0);
        asks(probe, "blind(1, 0)", 1);
        // 200 of one kind alone
        probe = new Probe().after("blind(0, 0) times 200");
        asks(probe, "blind(0, 0)", FULL);
        asks(probe, "right(0, 999)", 999);
        asks(probe, "lean(0)", 0);
    }

    private static void keptOnes() {
        Probe probe = new Probe();
        for (int round = 0; round < 2; round++) {
            asks(probe, "back()", NO);
            asks(probe, "keep()", 1);
            asks(probe, "keep()", 2);
            asks(probe, "keep()", FULL);
            asks(probe, "keep()", FULL);
            asks(probe, "size(4)", 2);
            asks(probe, "back()", 1);
            asks(probe, "keep()", 2);
            asks(probe, "keep()", FULL);
            asks(probe, "back()", 1);
            asks(probe, "size(4)", 1);
            asks(probe, "back()", 0);
            asks(probe, "size(4)", 0);
        }
        // the last one kept comes back first, and neither is touched by what comes later
        probe = new Probe().after("count(0, 0, 1)", "keep()", "count(0, 0, 2)", "keep()", "count(0, 0, 3)", "keep()", "count(0, 0, 4)");
        asks(probe, "back()", 1);
        asks(probe, "count(0, 0, 5)", 2);
        asks(probe, "keep()", 2);
        asks(probe, "back()", 1);
        asks(probe, "count(0, 0, 6)", 5);
        asks(probe, "back()", 0);
        asks(probe, "count(0, 0, 7)", 1);
        asks(probe, "back()", NO);
        asks(probe, "count(0, 0, 0)", 7);
        // what is kept ends with the text that it is of
        probe = new Probe().after("text:" + G + F, "keep()", "keep()");
        asks(probe, "lay()", 1);
        asks(probe, "size(4)", 0);
        asks(probe, "back()", NO);
        asks(probe, "keep()", 1);
    }

    public static void main(String[] args) {
        emptyAtFirst();
        noneChangesNothing();
        badComesFirst();
        brim();
        roomInTheText();
        refusedTexts();
        blindOnes();
        keptOnes();
        Due.end();
    }
}
