import java.util.ArrayList;
import java.util.List;

/**
 * Looks whether a call changed something: of two objects with the same calls behind them one gets that call as well,
 * and then both must answer alike, whatever is asked and whatever is done further. No object gets more than 512 calls.
 */
final class Unchanged {
    private static final int BOATS = 8;
    private static final int KINDS = 4;
    private static final int HALLS = 3;
    private static final int BUYERS = 8;

    private Unchanged() {
    }

    /** The first difference, or nothing. */
    static String difference(List<String> made, String call) {
        int room = Run.MOST_CALLS - made.size() - 1;
        if (room < 1) {
            return "";
        }
        List<String> asked = everything(made);
        for (int from = 0; from < asked.size(); from += room) {
            String found = compare(made, call, asked.subList(from, Math.min(asked.size(), from + room)));
            if (!found.isEmpty()) {
                return found;
            }
        }
        for (List<String> further
            : List.of(tellAnew(), goOn(), pressAndGoOn(), claims(made), anotherSale(), delays())) {
            String found = compare(made, call, further.subList(0, Math.min(further.size(), room)));
            if (!found.isEmpty()) {
                return found;
            }
        }
        return "";
    }

    private static String compare(List<String> made, String call, List<String> further) {
        Fishclock without = behind(made);
        Fishclock with = behind(made);
        Calls.outcome(with, call);
        for (String one : further) {
            String want = Calls.outcome(without, one);
            String got = Calls.outcome(with, one);
            if (!got.equals(want)) {
                return one + " answers " + got + " and not " + want;
            }
        }
        return "";
    }

    private static Fishclock behind(List<String> made) {
        Fishclock x = new Fishclock();
        for (String call : made) {
            Calls.outcome(x, call);
        }
        return x;
    }

    private static List<String> everything(List<String> made) {
        int boxes = 0;
        int lorries = 0;
        int days = 0;
        int lots = 0;
        Fishclock x = new Fishclock();
        for (String call : made) {
            String answer = Calls.outcome(x, call);
            boxes += call.startsWith("land ") ? 1 : 0;
            lorries += call.startsWith("lorry ") ? 1 : 0;
            days += call.equals("end") ? 1 : 0;
            lots = call.equals("open") ? Integer.parseInt(answer) : call.equals("end") ? 0 : lots;
        }
        return Questions.all(boxes, lots, lorries, days);
    }

    /** What a call tells is answered by the next one that tells it anew. */
    private static List<String> tellAnew() {
        List<String> further = new ArrayList<>(List.of("draw 77"));
        for (int hall = 0; hall < HALLS; hall++) {
            further.add("step " + hall + " 3");
            further.add("power " + hall + " 1");
        }
        for (int one = 0; one < BOATS; one++) {
            further.add("aid " + one + " 9 1");
            further.add("line " + one + " 1");
            further.add("buyer " + one + " 9 9");
            for (int kind = 0; kind < KINDS; kind++) {
                further.add("quota " + one + " " + kind + " 9");
            }
        }
        return further;
    }

    private static List<String> goOn() {
        List<String> further = new ArrayList<>();
        for (int tick = 0; tick < 25; tick++) {
            further.add("pass 1");
            for (int hall = 0; hall < HALLS; hall++) {
                further.add("hall " + hall + " 0");
                further.add("hall " + hall + " 2");
                further.add("hall " + hall + " 3");
            }
        }
        further.add("pass 500");
        further.addAll(List.of("hall 0 4", "hall 1 4", "hall 2 4", "kilos 1", "kilos 2", "kilos 3", "end"));
        return further;
    }

    private static void lightUp(List<String> further) {
        for (int hall = 0; hall < HALLS; hall++) {
            further.add("power " + hall + " 1");
        }
        for (int buyer = 0; buyer < BUYERS; buyer++) {
            further.add("line " + buyer + " 1");
        }
    }

    private static List<String> pressAndGoOn() {
        List<String> further = new ArrayList<>();
        lightUp(further);
        for (int buyer = 0; buyer < BUYERS; buyer++) {
            for (int hall = 0; hall < HALLS; hall++) {
                further.add("press " + buyer + " " + hall);
            }
        }
        further.addAll(goOn());
        return further;
    }

    private static List<String> claims(List<String> made) {
        Fishclock x = behind(made);
        List<String> further = new ArrayList<>();
        int boxes = 0;
        for (String call : made) {
            boxes += call.startsWith("land ") ? 1 : 0;
        }
        for (int box = 0; box < boxes; box++) {
            String buyer = Calls.outcome(x, "told " + box + " 2");
            if (!buyer.equals("-1")) {
                further.add("claim " + buyer + " " + box);
            }
        }
        Questions.addAll(further, "ship", BOATS, 1);
        Questions.addAll(further, "account", BUYERS, 2);
        return further;
    }

    /** Which boats are day boats, where kinds are sold, how they start and when they are withdrawn. */
    private static List<String> anotherSale() {
        List<String> further = new ArrayList<>(List.of("end"));
        for (int boat = 0; boat < BOATS; boat++) {
            for (int kind = 0; kind < KINDS; kind++) {
                further.add("land " + boat + " " + kind + " 0 5 1 1");
            }
        }
        further.add("open");
        for (int lot = 0; lot < 40; lot++) {
            further.add("lot " + lot + " 0");
            further.add("lot " + lot + " 4");
        }
        lightUp(further);
        Questions.addAll(further, "hall", HALLS, 5);
        for (int times = 0; times < 30; times++) {
            further.addAll(List.of("pass 17", "hall 0 1", "hall 1 1", "hall 2 1", "hall 0 2", "hall 1 2", "hall 2 2"));
        }
        return further;
    }

    private static List<String> delays() {
        List<String> further = new ArrayList<>();
        lightUp(further);
        for (int buyer = 0; buyer < BUYERS; buyer++) {
            further.add("press " + buyer + " 0");
            for (int tick = 0; tick < 9; tick++) {
                further.add("pass 1");
                further.add("hall 0 0");
            }
            further.add("pass 10");
        }
        return further;
    }
}
