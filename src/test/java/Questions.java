import java.util.ArrayList;
import java.util.List;

/** The calls that change nothing, as texts (see Calls). */
final class Questions {
    private static final int BOATS = 8;
    private static final int KINDS = 4;
    private static final int HALLS = 3;
    private static final int BUYERS = 8;

    private Questions() {
    }

    /** All that can be asked where there are so many, and the first of each that is not there. */
    static List<String> all(int boxes, int lots, int lorries, int days) {
        List<String> asked = new ArrayList<>(List.of("now", "day", "isOpen"));
        addAll(asked, "hall", HALLS, 5);
        addAll(asked, "account", BUYERS, 3);
        addAll(asked, "ship", BOATS, 3);
        addAll(asked, "told", boxes, 5);
        addAll(asked, "lot", lots, 6);
        addAll(asked, "average", KINDS, days + 1);
        for (int what = 0; what < 6; what++) {
            asked.add("kilos " + what);
            asked.add("kilosAnew " + what);
        }
        for (int lorry = 0; lorry <= lorries; lorry++) {
            asked.add("loaded " + lorry);
        }
        asked.add("told " + boxes + " 0");
        asked.add("lot " + lots + " 0");
        asked.add("average 0 " + (days + 1));
        return asked;
    }

    static void addAll(List<String> asked, String name, int count, int whats) {
        for (int one = 0; one < count; one++) {
            for (int what = 0; what < whats; what++) {
                asked.add(name + " " + one + " " + what);
            }
        }
    }
}
