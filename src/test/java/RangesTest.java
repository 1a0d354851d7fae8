import java.util.ArrayList;
import java.util.List;

/**
 * The ranges of all arguments, and which exception is thrown if several apply. Each argument gets its least and its
 * greatest value, those just outside, and the least and the greatest int; what is refused must change nothing.
 */
public final class RangesTest {
    /**
     * A quay on which all sorts of things are under way: the sale of the second day, the hall 0 TAKING, the hall 1
     * STANDING, the hall 2 FALLING with a press under way; boxes of each sort; a lorry that left and one that waits.
     */
    private static final String[] BUSY = {
        "quota 1 0 20", "aid 2 60 1", "aid 5 7 0", "step 2 7", "kind 3 900 300 2", "draw 4711",
        "buyer 0 1000000 1", "buyer 1 2000000 2", "buyer 2 3000000 3", "buyer 7 500000 5",
        "land 1 0 0 5 20 19", "land 1 0 0 5 3 3", "land 2 1 1 7 30 30", "land 3 2 2 9 40 30", "land 3 2 2 9 10 8",
        "land 4 0 0 1 50 20", "open", "press 0 0", "press 1 2", "pass 1", "press 7 1", "pass 6", "take 1 2 2",
        "lorry 1 8 1", "pass 1", "claim 1 3", "end", "land 5 0 1 6 7 7", "land 6 1 0 8 60 50", "land 6 2 0 8 60 60",
        "land 6 2 1 8 9 9", "land 7 3 1 4 20 1", "land 0 0 0 3 25 20", "land 0 0 0 3 25 25", "lorry 7 40 3", "line 3 0",
        "buyer 4 9 2", "kind 2 1000 986 2", "open", "pass 1", "press 7 1", "pass 2", "kind 2 1000 100 2", "pass 1",
        "press 0 0", "press 2 0", "pass 6", "press 1 2",
    };

    private static final int[] INTS = {-2147483648, 2147483647};

    /** One argument: its range, and what is thrown outside. */
    private static final class Range {
        final int least;
        final int most;
        final String exception;

        Range(String text) {
            String[] ends = text.substring(1).split("\\.\\.");
            exception = text.charAt(0) == 'I' ? "Index" : text.charAt(0) == 'A' ? "Argument" : "";
            least = Integer.parseInt(ends[0]);
            most = Integer.parseInt(ends[1]);
        }

        List<Integer> outside() {
            List<Integer> values = new ArrayList<>();
            if (exception.isEmpty()) {
                return values;
            }
            for (int value : new int[] {INTS[0], least - 1, most + 1, INTS[1]}) {
                values.add(value);
            }
            return values;
        }
    }

    public static void main(String[] args) {
        busyAsMeant();
        for (String call : new String[] {
            "quota I0..7 I0..3 A0..100000", "aid I0..7 A0..100000 F0..1", "kind I0..3 A1..10000 A1..10000 I0..2",
            "step I0..2 A1..500", "buyer I0..7 A0..100000000 A1..9", "power I0..2 F0..1", "line I0..7 F0..1",
            "land I0..7 I0..3 A0..2 A1..9 A1..100 A1..100", "pass A1..500", "lorry I0..7 A19..100000 A1..50",
            "pay I0..7 A1..100000000", "settle I0..7 A0..10000000 A0..100", "told I0..12 A0..4", "lot I0..6 A0..5",
            "hall I0..2 A0..4", "account I0..7 A0..2", "ship I0..7 A0..2", "kilos A0..5", "kilosAnew A0..5",
            "average I0..3 A0..1", "loaded I0..1",
        }) {
            ranges(call);
        }
        rangesOfPress();
        rangesOfTake();
        rangesOfClaim();
        landWhenFull();
        openAndEnd();
        pressWhenNot();
        takeWhenNot();
        passWhenLate();
        lorryWhenFull();
        claimWhenNot();
        lotWithoutASale();
        Check.end();
    }

    private static Run busy(String title) {
        return new Run(title).rows(BUSY);
    }

    private static void busyAsMeant() {
        busy("the busy quay").rows("now = 18", "day = 1", "isOpen = 1", "hall 0 0 = 3", "hall 1 0 = 2", "hall 2 0 = 1",
            "told 0 0 = 2", "told 1 0 = 1", "told 2 0 = 5", "told 3 0 = 4", "told 4 0 = 3", "told 5 0 = 7",
            "told 8 0 = 6", "told 9 0 = 2", "told 12 0 = 2", "told 13 0 = Index", "lot 6 5 = 1", "lot 7 5 = Index",
            "loaded 0 = 1", "loaded 1 = -1", "loaded 2 = Index");
    }

    private static void ranges(String call) {
        String[] words = call.split(" ");
        Range[] of = new Range[words.length - 1];
        for (int i = 0; i < of.length; i++) {
            of[i] = new Range(words[i + 1]);
        }
        for (int i = 0; i < of.length; i++) {
            accepted(words[0], of, i);
            refused(words[0], of, i);
            for (int j = 0; j < of.length; j++) {
                if (of[i].exception.equals("Index") && of[j].exception.equals("Argument")) {
                    refusedForBoth(words[0], of, i, j);
                }
            }
        }
    }

    /** For each argument its least value, one in the middle, or its greatest. */
    private static int[] values(Range[] of, int part) {
        int[] values = new int[of.length];
        for (int i = 0; i < of.length; i++) {
            values[i] = part == 0 ? of[i].least : part == 1 ? (of[i].least + of[i].most + 1) / 2 : of[i].most;
        }
        return values;
    }

    private static int[] with(int[] values, int place, int value) {
        int[] changed = values.clone();
        changed[place] = value;
        return changed;
    }

    private static String tell(String name, int[] values) {
        StringBuilder text = new StringBuilder(name);
        for (int value : values) {
            text.append(' ').append(value);
        }
        return text.toString();
    }

    private static void accepted(String name, Range[] of, int place) {
        String title = name + ", the ends of the range of argument " + place;
        for (int part = 0; part < 3; part++) {
            int[] others = values(of, part);
            busy(title).rows(tell(name, with(others, place, of[place].least)));
            busy(title).rows(tell(name, with(others, place, of[place].most)));
        }
    }

    private static void refused(String name, Range[] of, int place) {
        String title = name + ", outside the range of argument " + place;
        for (int value : of[place].outside()) {
            for (int part = 0; part < 3; part++) {
                busy(title).rows(tell(name, with(values(of, part), place, value)) + " = " + of[place].exception);
            }
        }
    }

    private static void refusedForBoth(String name, Range[] of, int first, int second) {
        String title = name + ", outside the ranges of arguments " + first + " and " + second;
        for (int one : of[first].outside()) {
            for (int other : of[second].outside()) {
                int[] others = values(of, 1);
                busy(title).rows(tell(name, with(with(others, first, one), second, other)) + " = Index");
            }
        }
    }

    /** In each hall a lot is at the clock. */
    private static Run falling(String title) {
        return new Run(title).rows("buyer 0 1000000 1", "buyer 7 1000000 1", "land 0 0 0 5 10 10", "land 0 0 0 5 10 10",
            "land 0 1 0 5 10 10", "land 0 2 0 5 10 10", "land 0 2 0 5 10 10", "open");
    }

    private static void rangesOfPress() {
        for (int buyer = 0; buyer < 8; buyer++) {
            for (int hall = 0; hall < 3; hall++) {
                falling("press, who and where").rows("press " + buyer + " " + hall + " = 1000");
            }
        }
        for (String outside : new String[] {"-1 0", "8 0", "-2147483648 0", "2147483647 0", "0 -1", "0 3",
            "0 -2147483648", "0 2147483647", "-1 -1", "8 3"}) {
            falling("press, who and where").rows("press " + outside + " = Index");
            busy("press, who and where").rows("press " + outside + " = Index");
            new Run("press, who and where").rows("press " + outside + " = Index");
        }
    }

    /** The buyer 0 has won in the hall 0, the buyer 7 in the hall 2. */
    private static Run taking(String title) {
        return falling(title).rows("press 0 0", "press 7 2", "pass 2", "hall 0 3 = 0", "hall 2 3 = 7");
    }

    private static void rangesOfTake() {
        String title = "take, who, where and how many";
        taking(title).rows("take 0 0 1 = 10000", "take 7 2 2 = 20000");
        taking(title).rows("take 0 0 2 = 20000", "take 7 2 1 = 10000");
        for (String outside : new String[] {"-1 0 1", "8 2 1", "-2147483648 0 1", "2147483647 2 1", "0 -1 1", "7 3 1",
            "0 -2147483648 1", "7 2147483647 1", "8 3 0", "-1 0 3", "0 3 -2147483648", "8 1 2147483647"}) {
            taking(title).rows("take " + outside + " = Index");
            new Run(title).rows("take " + outside + " = Index");
        }
        for (String many : new String[] {"0", "3", "-1", "-2147483648", "2147483647"}) {
            taking(title).rows("take 0 0 " + many + " = State", "take 7 2 " + many + " = State");
        }
    }

    /** The box 0 was bought by the buyer 0, the last one, 4, by the buyer 7. */
    private static Run sold(String title) {
        return taking(title).rows("take 0 0 1", "take 7 2 2");
    }

    private static void rangesOfClaim() {
        String title = "claim, who and for what";
        sold(title).rows("claim 0 0 = 0", "claim 7 4 = 0");
        for (String outside : new String[] {"-1 0", "8 4", "-2147483648 0", "2147483647 4", "0 -1", "7 5",
            "0 -2147483648", "7 2147483647", "8 5"}) {
            sold(title).rows("claim " + outside + " = Index");
        }
        new Run(title).rows("claim 0 0 = Index", "claim 8 0 = Index", "claim 0 -1 = Index");
    }

    private static void landWhenFull() {
        Run run = new Run("land, 150 are there").times(150, "land 3 1 1 5 10 9 = #");
        run.rows("land 0 0 0 1 1 1 = State", "land 7 3 2 9 100 100 = State");
        for (String outside : new String[] {"0 0 -1 1 1 1", "0 0 3 1 1 1", "0 0 0 0 1 1", "0 0 0 10 1 1", "0 0 0 1 0 1",
            "0 0 0 1 101 1", "0 0 0 1 1 0", "0 0 0 1 1 101", "0 0 -2147483648 1 1 2147483647"}) {
            run.rows("land " + outside + " = Argument");
        }
        for (String outside : new String[] {"-1 0 0 1 1 1", "8 0 0 1 1 1", "0 -1 0 1 1 1", "0 4 0 1 1 1",
            "8 4 3 10 101 101", "0 4 -1 0 0 0"}) {
            run.rows("land " + outside + " = Index");
        }
        run.rows("kilos 0 = 1500", "open = 1", "lot 0 5 = 150");
    }

    private static void openAndEnd() {
        new Run("open and end, nothing there yet").rows("open = State", "end = State", "pass 1", "open = State",
            "end = State");
        falling("open and end, one is open").rows("open = State", "end = 5", "end = State", "open");
        busy("open, one is open and boxes wait").rows("land 0 0 0 5 5 5", "open = State", "end", "open");
    }

    private static void pressWhenNot() {
        String[] indices = {"press -1 0 = Index", "press 8 0 = Index", "press 0 3 = Index"};
        new Run("press, no sale").rows("press 0 0 = State").rows(indices);
        new Run("press, an empty hall").rows("land 0 0 0 5 5 5", "open", "press 0 1 = State", "press 0 2 = State")
            .rows(indices);
        falling("press, standing").rows("press 0 0", "pass 1", "hall 0 0 = 2", "press 7 0 = State", "press 0 0 = State")
            .rows(indices);
        falling("press, standing, and it would be the only one that counts").rows("press 3 0", "pass 1",
            "press 7 0 = State", "press 0 0 = State", "pass 1", "hall 0 0 = 1", "hall 0 3 = -1");
        falling("press, taking").rows("press 0 0", "pass 2", "hall 0 0 = 3", "press 7 0 = State", "press 0 0 = State")
            .rows(indices);
        falling("press, no power").rows("power 0 0", "press 0 0 = State", "press 0 1 = 1000", "power 0 1",
            "press 0 0 = 1000").rows(indices);
        falling("press, no line").rows("line 0 0", "press 0 0 = State", "press 0 2 = State", "press 7 0 = 1000",
            "line 0 1", "press 0 0 = 1000").rows(indices);
        falling("press, pressed already").rows("press 0 0 = 1000", "press 0 0 = State", "press 0 1 = 1000",
            "press 0 1 = State", "press 7 0 = 1000").rows(indices);
        falling("press, nothing is right").rows("press 0 0", "power 0 0", "line 0 0", "press 0 0 = State")
            .rows(indices);
    }

    private static void takeWhenNot() {
        String[] indices = {"take -1 0 1 = Index", "take 8 0 1 = Index", "take 0 3 0 = Index"};
        new Run("take, no sale").rows("take 0 0 1 = State", "take 0 0 0 = State").rows(indices);
        falling("take, falling").rows("take 0 0 1 = State").rows(indices);
        falling("take, standing").rows("press 0 0", "pass 1", "take 0 0 1 = State").rows(indices);
        taking("take, another one").rows("take 7 0 1 = State", "take 0 2 1 = State", "take 0 1 1 = State")
            .rows(indices);
        taking("take, no power").rows("power 0 0", "take 0 0 1 = State", "take 7 2 1 = 10000", "power 0 1",
            "take 0 0 1 = 10000").rows(indices);
        taking("take, above the guarantee").rows("buyer 0 9999 1", "take 0 0 1 = State", "buyer 0 19999 1",
            "take 0 0 2 = State", "take 0 0 1 = 10000").rows(indices);
        taking("take, nothing is right").rows("power 0 0", "buyer 0 0 1", "take 7 0 3 = State").rows(indices);
    }

    private static void passWhenLate() {
        Run run = new Run("pass, near the last tick").times(199, "pass 500").rows("pass 400", "now = 99900");
        run.rows("pass 101 = State", "pass 500 = State", "pass 501 = Argument", "pass 0 = Argument",
            "pass -2147483648 = Argument", "pass 2147483647 = Argument", "pass 100 = 100000", "pass 1 = State",
            "pass 500 = State", "pass 0 = Argument", "pass 501 = Argument", "now = 100000");
    }

    private static void lorryWhenFull() {
        Run run = new Run("lorry, 20 are there").times(20, "lorry 3 9 4 = #");
        run.rows("lorry 0 1 1 = State", "lorry 7 100000 50 = State", "lorry 0 0 1 = Argument",
            "lorry 0 100001 1 = Argument", "lorry 0 1 0 = Argument", "lorry 0 1 51 = Argument", "lorry 8 1 1 = Index",
            "lorry -1 0 0 = Index", "pass 9", "loaded 19 = 0", "lorry 0 10 1 = State", "lorry 0 9 1 = Argument");
    }

    private static void claimWhenNot() {
        sold("claim, not bought").rows("claim 0 1 = State", "claim 0 3 = State", "claim 7 0 = State",
            "claim 3 4 = State", "claim 8 1 = Index", "claim 0 5 = Index");
        sold("claim, claimed already").rows("claim 0 0 = 0", "claim 0 0 = State", "claim 7 0 = State",
            "claim 8 0 = Index");
        sold("claim, too late").rows("pass 241", "claim 0 0 = State", "claim 7 0 = State", "claim 8 0 = Index",
            "claim 0 5 = Index");
        busy("claim, of all sorts").rows("claim 0 0 = State", "claim 0 1 = State", "claim 0 2 = State",
            "claim 0 5 = State", "claim 0 12 = State", "claim 1 3 = State", "claim 1 4 = 2000");
    }

    private static void lotWithoutASale() {
        new Run("lot, without a sale").rows("lot 0 0 = Index", "lot 0 6 = Index", "land 0 0 0 5 5 5", "lot 0 0 = Index",
            "open = 1", "lot 0 0 = 0", "end", "lot 0 0 = Index", "lot 0 -1 = Index");
    }
}
