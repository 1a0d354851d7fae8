import java.util.ArrayList;
import java.util.List;

/**
 * A run of calls on one object, told as rows "call = answer" (see Calls). A row without an answer may answer what it
 * likes, but must not throw. A call that is due to be refused is looked at further: it must not change anything.
 */
final class Run {
    /** Nothing is promised about an object behind these. */
    static final int MOST_CALLS = 512;

    private final String title;
    private final Fishclock x = new Fishclock();
    private final List<String> made = new ArrayList<>();
    private int calls = 0;

    Run(String title) {
        this.title = title;
    }

    Run rows(String... rows) {
        for (String row : rows) {
            row(row);
        }
        return this;
    }

    /** The same row so many times; # in it stands for the numbers from 0 on. */
    Run times(int times, String row) {
        for (int i = 0; i < times; i++) {
            row(row.replace("#", Integer.toString(i)));
        }
        return this;
    }

    int calls() {
        return calls;
    }

    private void row(String row) {
        String[] sides = row.split(" = ");
        String due = sides.length > 1 ? sides[1] : "";
        String got = Calls.outcome(x, sides[0]);
        calls++;
        Check.about(title);
        if (calls > MOST_CALLS) {
            Check.report("a test with more than 512 calls");
        }
        if (due.isEmpty() ? Calls.isRefused(got) : !got.equals(due)) {
            Check.report("call " + calls + ", " + sides[0] + ", answered " + got + ", due is "
                + (due.isEmpty() ? "an answer" : due));
        }
        if (Calls.isRefused(due) && !due.isEmpty()) {
            lookForChanges(sides[0]);
        } else {
            made.add(sides[0]);
        }
    }

    private void lookForChanges(String refused) {
        String difference = Unchanged.difference(made, refused);
        if (!difference.isEmpty()) {
            Check.report("behind " + refused + ", which was refused: " + difference);
        }
    }
}
