import java.util.ArrayList;
import java.util.List;

/** All that can be seen of an object, as rows of calls; each look wants an object of its own. */
final class Looks {
    private static final int SORTS = 6, PATCHES = 10;

    private Looks() {
    }

    /** That a call leaves everything as it was: what is seen behind it is what is seen without it. */
    static void unchangedBy(String call, long answer, String... state) {
        for (List<String> look : List.of(atWhatIsLaid(), atWhatIsFound(), atTheText())) {
            Probe without = new Probe().after(state);
            Probe with = new Probe().after(state);
            Due.is(call, with.ask(call), answer);
            for (String row : look) {
                Due.is(row + " behind " + call, with.ask(row), without.ask(row));
            }
        }
    }

    /** Sorts and patches that there are not are asked, too: nothing may come to them. */
    private static List<String> atWhatIsLaid() {
        List<String> rows = new ArrayList<>();
        for (int what = 0; what <= 5; what++) {
            rows.add("size(" + what + ")");
        }
        for (int f = 0; f < PATCHES; f++) {
            for (int what = 0; what <= 4; what++) {
                rows.add("face(" + f + ", " + what + ")");
            }
            for (int s = 0; s < SORTS; s++) {
                rows.add("lies(" + f + ", " + s + ", -1)");
            }
        }
        for (int s = 0; s < SORTS; s++) {
            for (int wave = 0; wave < 4; wave++) {
                rows.add("cooked(" + s + ", 0, " + wave + ")");
            }
            rows.add("read(0, 77, " + s + ")");
            rows.add("lies(9, " + s + ", 0)");
            rows.add("kin(20, " + s + ")");
        }
        for (int h = 0; h <= 200; h += 50) {
            rows.add("leave(" + h + ", 0)");
            rows.add("leave(" + h + ", 1)");
        }
        return rows;
    }

    private static List<String> atWhatIsFound() {
        List<String> rows = new ArrayList<>(List.of("next()", "sure(0, 0)", "sure(9, 0)", "eaten(9, 0)"));
        for (int s = 0; s < SORTS; s++) {
            for (int t = 0; t < SORTS; t++) {
                rows.add("slips(" + s + ", " + t + ", 0)");
            }
            rows.add("lean(" + s + ")");
            rows.add("books(" + s + ", 1, -1, true)");
        }
        for (int back = 0; back <= 2; back++) {
            for (int f = 0; f < PATCHES; f++) {
                rows.add("face(" + f + ", 4)");
            }
            for (int s = 0; s < SORTS; s++) {
                rows.add("right(" + s + ", 100)");
                for (int f = 0; f < PATCHES; f += back == 0 ? 1 : 9) {
                    rows.add("count(" + f + ", " + s + ", 0)");
                }
            }
            rows.addAll(List.of("teeth(0)", "size(3)", "size(5)", "back()"));
        }
        return rows;
    }

    private static List<String> atTheText() {
        List<String> rows = new ArrayList<>(List.of("size(2)", "fault()", "lay()", "wipe()"));
        rows.addAll(atWhatIsLaid());
        return rows;
    }
}
