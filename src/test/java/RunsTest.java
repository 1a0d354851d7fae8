import java.util.ArrayList;
import java.util.List;

/**
 * Long runs of calls, good and bad, held against PlainQuay: each answer and each exception; and all that can be asked
 * behind some of the calls, from new objects, so that none gets more than 512 calls.
 */
public final class RunsTest {
    private static final int RUNS = 800;
    private static final int LOOKS = 6;
    private static final int[] ODD = {-2147483648, -100000, -2, -1, 0, 1, 2, 3, 4, 5, 6, 7, 8, 9, 10, 50, 51, 100, 101,
        149, 150, 240, 500, 501, 9999, 10000, 10001, 99999, 100000, 100001, 10000000, 10000001, 100000000, 100000001,
        2147483647};

    private final int run;
    private final int odds; // how many of 1000 arguments are odd ones
    private final int questions; // how many of 100 calls are questions
    private final int mostTicks;
    private final int profile;
    private final PlainQuay y = new PlainQuay();
    private long seed;

    private RunsTest(int run) {
        this.run = run;
        seed = run * 7919L + 17;
        odds = run % 5 == 0 ? 60 : run % 5 == 1 ? 0 : 8;
        questions = run % 7 == 0 ? 10 : 40;
        mostTicks = new int[] {2, 4, 12, 120, 500}[run / 5 % 5];
        profile = run % 3;
    }

    public static void main(String[] args) {
        for (int run = 0; run < RUNS; run++) {
            new RunsTest(run).go();
        }
        Check.end();
    }

    private void go() {
        List<String> changes = new ArrayList<>();
        Fishclock x = new Fishclock();
        for (int call = 0; call < Run.MOST_CALLS; call++) {
            boolean asks = below(100) < questions;
            String next = run % 4 > 0 && call < 8 ? come(call) : asks ? ask() : change();
            String want = Calls.outcome(y, next);
            String got = Calls.outcome(x, next);
            if (!got.equals(want)) {
                Check.about("run " + run + ", call " + (call + 1));
                Check.report(next + " answered " + got + ", due is " + want);
                return;
            }
            if (!asks) {
                changes.add(next);
            }
        }
        for (int look = 0; look < LOOKS; look++) {
            lookAround(changes.subList(0, 1 + below(changes.size())));
        }
    }

    /** Asks all that can be asked behind these calls; a new object comes in when 512 calls are used up. */
    private void lookAround(List<String> changes) {
        PlainQuay plain = new PlainQuay();
        for (String change : changes) {
            Calls.outcome(plain, change);
        }
        List<String> asked = Questions.all(plain.countBoxes(), plain.countLots(), plain.countLorries(), plain.day());
        int room = Run.MOST_CALLS - changes.size();
        Fishclock x = null;
        for (int i = 0; i < asked.size() && room > 0; i++) {
            if (i % room == 0) {
                x = new Fishclock();
                for (String change : changes) {
                    Calls.outcome(x, change);
                }
            }
            String want = Calls.outcome(plain, asked.get(i));
            String got = Calls.outcome(x, asked.get(i));
            if (!got.equals(want)) {
                Check.about("run " + run + ", behind its first " + changes.size() + " changes, the last of them "
                    + changes.get(changes.size() - 1));
                Check.report(asked.get(i) + " answered " + got + ", due is " + want);
                return;
            }
        }
    }

    // ---- the next call

    private int below(int bound) {
        seed = seed * 6364136223846793005L + 1442695040888963407L;
        return (int) ((seed >>> 33) % bound);
    }

    private int in(int least, int most) {
        return below(1000) < odds ? ODD[below(ODD.length)] : least + below(most - least + 1);
    }

    private static String tell(String name, int... numbers) {
        StringBuilder text = new StringBuilder(name);
        for (int number : numbers) {
            text.append(' ').append(number);
        }
        return text.toString();
    }

    private String come(int buyer) {
        return tell("buyer", buyer, 1000000, 1 + below(below(2) == 0 ? 2 : 9));
    }

    private String change() {
        int taking = findHall(Fishclock.TAKING);
        if (taking >= 0 && below(10) < 4) {
            return take(taking);
        }
        if (findHall(Fishclock.STANDING) >= 0 && below(10) < 4) {
            return "pass 1";
        }
        int choice = below(100);
        if (choice < share(22, 50, 12)) {
            return land();
        }
        if (choice < share(42, 60, 30)) {
            return tell("pass", below(4) > 0 ? 1 + below(2) : in(1, mostTicks));
        }
        if (choice < share(64, 75, 60)) {
            return tell("press", in(0, 7), in(0, 2));
        }
        if (choice < share(67, 77, 64)) {
            return take(in(0, 2));
        }
        if (choice < share(74, 80, 70)) {
            return sale();
        }
        return choice < share(85, 90, 80) ? money() : told();
    }

    private int share(int often, int manyBoxes, int manyTold) {
        return profile == 0 ? often : profile == 1 ? manyBoxes : manyTold;
    }

    private int findHall(int state) {
        int from = below(3);
        for (int i = 0; i < 3; i++) {
            if (y.hall((from + i) % 3, 0) == state) {
                return (from + i) % 3;
            }
        }
        return -1;
    }

    private String land() {
        int kilos = in(1, 100);
        return tell("land", below(2) == 0 ? in(0, 7) : in(2, 3), in(0, 3), below(3) > 0 ? 0 : in(0, 2),
            below(3) == 0 ? in(1, 9) : 5, kilos, below(2) == 0 ? in(1, 100) : kilos - below(6));
    }

    private String take(int hall) {
        int winner = hall >= 0 && hall < 3 ? y.hall(hall, 3) : 0;
        return tell("take", below(10) > 0 && winner >= 0 ? winner : in(0, 7), hall, below(2) == 0 ? 1 : in(1, 4));
    }

    private String sale() {
        boolean isSold = y.hall(0, 0) + y.hall(1, 0) + y.hall(2, 0) == 0;
        return y.isOpen() == 0 || !isSold && below(4) > 0 ? "open" : "end";
    }

    private String money() {
        int one = in(0, 7);
        int cents = below(2) == 0 ? in(1, 100000) : in(1, 100000000);
        switch (below(5)) {
            case 0: return tell("lorry", one, y.now() + in(1, 20), in(1, 50));
            case 1: return tell("pay", one, cents);
            case 2: return tell("settle", one, cents, in(0, 100));
            default: return claim(one);
        }
    }

    private String claim(int other) {
        int box = y.countBoxes() > 0 && below(8) > 0 ? below(y.countBoxes()) : in(0, 149);
        boolean isThere = box >= 0 && box < y.countBoxes();
        return tell("claim", isThere && y.told(box, 2) >= 0 ? y.told(box, 2) : other, box);
    }

    private String told() {
        int one = in(0, 7);
        int kilos = below(2) == 0 ? in(0, 400) : in(0, 10000);
        int is = below(3) > 0 ? 1 : 0;
        switch (below(12)) {
            case 0: return tell("quota", one, in(0, 3), kilos);
            case 1: return tell("aid", one, kilos, is);
            case 2: return tell("kind", in(0, 3), below(2) == 0 ? in(1, 10000) : in(900, 1100),
                below(2) == 0 ? in(1, 1200) : in(50, 300), in(0, 2));
            case 3: return tell("step", in(0, 2), below(2) == 0 ? in(1, 500) : in(1, 30));
            case 4: case 5: case 6: return buyer(one);
            case 7: return tell("draw", kilos * one);
            case 8: return tell("line", one, is);
            default: return tell("power", in(0, 2), is);
        }
    }

    private String buyer(int buyer) {
        int owed = buyer >= 0 && buyer < 8 ? Math.max(0, y.account(buyer, 1)) : 0;
        int guarantee = below(3) > 0 ? in(10000, 100000000) : owed + in(0, 100000);
        return tell("buyer", buyer, guarantee, below(2) == 0 ? in(1, 9) : in(1, 3));
    }

    private String ask() {
        int box = in(0, Math.max(0, y.countBoxes() - 1));
        int lot = in(0, Math.max(0, y.countLots() - 1));
        switch (below(14)) {
            case 0: return new String[] {"now", "day", "isOpen"}[below(3)];
            case 1: case 2: case 3: return tell("told", box, in(0, 4));
            case 4: case 5: return tell("lot", lot, in(0, 5));
            case 6: case 7: case 8: return tell("hall", in(0, 2), in(0, 4));
            case 9: return tell("account", in(0, 7), in(0, 2));
            case 10: return tell("ship", in(0, 7), in(0, 2));
            case 11: return tell(below(2) == 0 ? "kilos" : "kilosAnew", in(0, 5));
            case 12: return tell("average", in(0, 3), in(0, y.day()));
            default: return tell("loaded", in(0, Math.max(0, y.countLorries() - 1)));
        }
    }
}
