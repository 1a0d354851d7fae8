/**
 * Long runs of calls, good and bad, held against PlainQuay: each answer, each exception, and behind each call all
 * that can be asked, so that a refused call which changes something shows as well.
 */
public final class RunsTest {
    private static final int RUNS = 600;
    private static final int CALLS = 512;
    private static final int[] ODD = {-2147483648, -100000, -2, -1, 0, 1, 2, 3, 4, 5, 6, 7, 8, 9, 10, 50, 51, 100, 101,
        149, 150, 240, 500, 501, 9999, 10000, 10001, 99999, 100000, 100001, 10000000, 10000001, 100000000, 100000001,
        2147483647};

    private long seed;
    private Fishclock x;
    private PlainQuay y;
    private int odds; // how many of 1000 arguments are odd ones
    private int mostTicks;
    private int profile;

    public static void main(String[] args) {
        for (int run = 0; run < RUNS; run++) {
            new RunsTest().go(run);
        }
        Check.end();
    }

    private void go(int run) {
        seed = run * 7919L + 17;
        x = new Fishclock();
        y = new PlainQuay();
        odds = run % 5 == 0 ? 60 : run % 5 == 1 ? 0 : 8;
        mostTicks = new int[] {2, 4, 12, 120, 500}[run / 5 % 5];
        profile = run % 3;
        if (run % 4 > 0) {
            buyersCome();
        }
        String last = "";
        for (int call = 0; call < CALLS; call++) {
            String told = step();
            Check.promise(0, "run " + run + ", call " + call + ", behind " + last);
            if (!told.isEmpty()) {
                Check.report(told);
                return;
            }
            last = lastCall;
            if (!sameAnswers()) {
                return;
            }
        }
    }

    private void buyersCome() {
        for (int i = 0; i < 8; i++) {
            int buyer = i;
            int delay = 1 + below(below(2) == 0 ? 2 : 9);
            x.buyer(buyer, 1000000, delay);
            y.buyer(buyer, 1000000, delay);
        }
    }

    private int below(int bound) {
        seed = seed * 6364136223846793005L + 1442695040888963407L;
        return (int) ((seed >>> 33) % bound);
    }

    private int in(int least, int most) {
        return below(1000) < odds ? ODD[below(ODD.length)] : least + below(most - least + 1);
    }

    private interface Call {
        int answer();
    }

    private String lastCall = "";

    private String both(String name, int[] args, Call mine, Call plain) {
        StringBuilder text = new StringBuilder(name);
        for (int arg : args) {
            text.append(' ').append(arg);
        }
        lastCall = text.toString();
        String got = outcome(mine);
        String want = outcome(plain);
        return got.equals(want) ? "" : lastCall + " answered " + got + ", due is " + want;
    }

    private static String outcome(Call call) {
        try {
            return Integer.toString(call.answer());
        } catch (RuntimeException thrown) {
            return thrown.getClass().getSimpleName();
        }
    }

    private String step() {
        int taking = findHall(3);
        if (taking >= 0 && below(10) < 4) {
            return take(taking);
        }
        if (findHall(2) >= 0 && below(10) < 4) {
            return both("pass", new int[] {1}, () -> x.pass(1), () -> y.pass(1));
        }
        int choice = below(100);
        if (choice < share(22, 50, 12)) {
            return land();
        }
        if (choice < share(42, 60, 30)) {
            return pass();
        }
        if (choice < share(64, 75, 60)) {
            return press();
        }
        if (choice < share(67, 77, 64)) {
            return take(in(0, 2));
        }
        if (choice < share(74, 80, 70)) {
            return sale();
        }
        return choice < share(85, 90, 80) ? money() : tell();
    }

    private int share(int often, int manyBoxes, int manyTold) {
        return profile == 0 ? often : profile == 1 ? manyBoxes : manyTold;
    }

    private int findHall(int state) {
        int from = below(3);
        for (int i = 0; i < 3; i++) {
            if (y.hall((from + i) % 3, 0) == state) {
                return (from + i) % 3;
            }
        }
        return -1;
    }

    private String land() {
        int boat = below(2) == 0 ? in(0, 7) : in(2, 3);
        int kind = in(0, 3);
        int size = below(3) > 0 ? 0 : in(0, 2);
        int fresh = below(3) == 0 ? in(1, 9) : 5;
        int kilos = in(1, 100);
        int real = below(2) == 0 ? in(1, 100) : kilos - below(6);
        return both("land", new int[] {boat, kind, size, fresh, kilos, real},
            () -> x.land(boat, kind, size, fresh, kilos, real), () -> y.land(boat, kind, size, fresh, kilos, real));
    }

    private String pass() {
        int ticks = below(4) > 0 ? 1 + below(2) : in(1, mostTicks);
        return both("pass", new int[] {ticks}, () -> x.pass(ticks), () -> y.pass(ticks));
    }

    private String press() {
        int buyer = in(0, 7);
        int hall = in(0, 2);
        return both("press", new int[] {buyer, hall}, () -> x.press(buyer, hall), () -> y.press(buyer, hall));
    }

    private String take(int hall) {
        int winner = hall >= 0 && hall < 3 ? y.hall(hall, 3) : 0;
        int buyer = below(10) > 0 && winner >= 0 ? winner : in(0, 7);
        int many = below(2) == 0 ? 1 : in(1, 4);
        return both("take", new int[] {buyer, hall, many},
            () -> x.take(buyer, hall, many), () -> y.take(buyer, hall, many));
    }

    private String sale() {
        boolean isSold = y.hall(0, 0) + y.hall(1, 0) + y.hall(2, 0) == 0;
        if (y.isOpen() == 0 || !isSold && below(4) > 0) {
            return both("open", new int[0], () -> x.open(), () -> y.open());
        }
        return both("end", new int[0], () -> x.end(), () -> y.end());
    }

    private String money() {
        int one = in(0, 7);
        int many = in(1, 50);
        int tick = y.now() + in(1, 20);
        int cents = below(2) == 0 ? in(1, 100000) : in(1, 100000000);
        int part = in(0, 100);
        int box = in(0, 149);
        switch (below(5)) {
            case 0: return both("lorry", new int[] {one, tick, many},
                () -> x.lorry(one, tick, many), () -> y.lorry(one, tick, many));
            case 1: return both("pay", new int[] {one, cents}, () -> x.pay(one, cents), () -> y.pay(one, cents));
            case 2: return both("settle", new int[] {one, cents, part},
                () -> x.settle(one, cents, part), () -> y.settle(one, cents, part));
            default: break;
        }
        int buyer = box >= 0 && box < y.countBoxes() && y.told(box, 2) >= 0 ? y.told(box, 2) : one;
        return both("claim", new int[] {buyer, box}, () -> x.claim(buyer, box), () -> y.claim(buyer, box));
    }

    private String tell() {
        int one = in(0, 7);
        int kind = in(0, 3);
        int hall = in(0, 2);
        int kilos = below(2) == 0 ? in(0, 400) : in(0, 10000);
        boolean is = below(3) > 0;
        switch (below(12)) {
            case 0: return both("quota", new int[] {one, kind, kilos},
                () -> x.quota(one, kind, kilos), () -> y.quota(one, kind, kilos));
            case 1: return both("aid", new int[] {one, kilos, is ? 1 : 0},
                () -> x.aid(one, kilos, is), () -> y.aid(one, kilos, is));
            case 2: return kind(kind, hall);
            case 3: return step(hall);
            case 4: case 5: case 10: return buyer(one);
            case 6: return both("draw", new int[] {kilos * one}, () -> x.draw(kilos * one), () -> y.draw(kilos * one));
            case 7: case 8: case 9: return both("power", new int[] {hall, is ? 1 : 0},
                () -> x.power(hall, is) ? 1 : 0, () -> y.power(hall, is));
            default: return both("line", new int[] {one, is ? 1 : 0},
                () -> x.line(one, is) ? 1 : 0, () -> y.line(one, is));
        }
    }

    private String kind(int kind, int hall) {
        int start = below(2) == 0 ? in(1, 10000) : in(900, 1100);
        int minimum = below(2) == 0 ? in(1, 1200) : in(50, 300);
        return both("kind", new int[] {kind, start, minimum, hall}, () -> {
            x.kind(kind, start, minimum, hall);
            return 0;
        }, () -> y.kind(kind, start, minimum, hall));
    }

    private String step(int hall) {
        int cents = below(2) == 0 ? in(1, 500) : in(1, 30);
        return both("step", new int[] {hall, cents}, () -> x.step(hall, cents), () -> y.step(hall, cents));
    }

    private String buyer(int buyer) {
        int owed = buyer >= 0 && buyer < 8 ? Math.max(0, y.account(buyer, 1)) : 0;
        int guarantee = below(3) > 0 ? in(10000, 100000000) : owed + in(0, 100000);
        int delay = below(2) == 0 ? in(1, 9) : in(1, 3);
        return both("buyer", new int[] {buyer, guarantee, delay},
            () -> x.buyer(buyer, guarantee, delay), () -> y.buyer(buyer, guarantee, delay));
    }

    private boolean same(String name, int one, int what, int got, int want) {
        if (got != want) {
            Check.report("behind " + lastCall + ": " + name + "(" + one + ", " + what + ") answered " + got
                + ", due is " + want);
        }
        return got == want;
    }

    private boolean sameAnswers() {
        boolean same = same("now", 0, 0, x.now(), y.now()) & same("day", 0, 0, x.day(), y.day())
            & same("isOpen", 0, 0, x.isOpen() ? 1 : 0, y.isOpen());
        for (int hall = 0; hall < 3; hall++) {
            for (int what = 0; what < 5; what++) {
                same &= same("hall", hall, what, x.hall(hall, what), y.hall(hall, what));
            }
        }
        for (int one = 0; one < 8; one++) {
            for (int what = 0; what < 3; what++) {
                same &= same("account", one, what, x.account(one, what), y.account(one, what));
                same &= same("ship", one, what, x.ship(one, what), y.ship(one, what));
            }
        }
        for (int what = 0; what < 6; what++) {
            same &= same("kilos", what, 0, x.kilos(what), y.kilos(what));
            same &= same("kilosAnew", what, 0, x.kilosAnew(what), y.kilos(what));
        }
        for (int kind = 0; kind < 4; kind++) {
            same &= same("average", kind, y.day(), x.average(kind, y.day()), y.average(kind, y.day()));
            int before = below(y.day() + 1);
            same &= same("average", kind, before, x.average(kind, before), y.average(kind, before));
        }
        return same && sameRows();
    }

    private boolean sameRows() {
        boolean same = true;
        for (int box = 0; box < y.countBoxes(); box++) {
            for (int what = 0; what < 5; what++) {
                same &= same("told", box, what, x.told(box, what), y.told(box, what));
            }
        }
        for (int lot = 0; lot < y.countLots(); lot++) {
            for (int what = 0; what < 6; what++) {
                same &= same("lot", lot, what, x.lot(lot, what), y.lot(lot, what));
            }
        }
        for (int lorry = 0; lorry < y.countLorries(); lorry++) {
            same &= same("loaded", lorry, 0, x.loaded(lorry), y.loaded(lorry));
        }
        return same && sameRefused();
    }

    private boolean sameRefused() {
        int one = in(0, 150);
        int what = in(0, 6);
        return sameOutcome("told", one, what, () -> x.told(one, what), () -> y.told(one, what))
            & sameOutcome("lot", one, what, () -> x.lot(one, what), () -> y.lot(one, what))
            & sameOutcome("hall", one, what, () -> x.hall(one, what), () -> y.hall(one, what))
            & sameOutcome("account", one, what, () -> x.account(one, what), () -> y.account(one, what))
            & sameOutcome("ship", one, what, () -> x.ship(one, what), () -> y.ship(one, what))
            & sameOutcome("kilos", what, 0, () -> x.kilos(what), () -> y.kilos(what))
            & sameOutcome("kilosAnew", what, 0, () -> x.kilosAnew(what), () -> y.kilos(what))
            & sameOutcome("average", what, one, () -> x.average(what, one), () -> y.average(what, one))
            & sameOutcome("loaded", one, 0, () -> x.loaded(one), () -> y.loaded(one));
    }

    private boolean sameOutcome(String name, int one, int what, Call mine, Call plain) {
        String got = outcome(mine);
        String want = outcome(plain);
        if (!got.equals(want)) {
            Check.report("behind " + lastCall + ": " + name + "(" + one + ", " + what + ") answered " + got
                + ", due is " + want);
        }
        return got.equals(want);
    }
}
