/** Promises 20 to 30: what there is. */
public final class AskedTest {
    public static void main(String[] args) {
        nowDayIsOpen();
        told();
        lot();
        hall();
        account();
        ship();
        kilos();
        average();
        Check.end();
    }

    private static void nowDayIsOpen() {
        Fishclock x = new Fishclock();
        x.land(0, 0, 0, 5, 1, 1);
        x.pass(7);
        Check.promise(20, "now");
        Check.due("now()", x.now(), 7);
        x.open();
        Check.due("now() in a sale", x.now(), 7);
        Check.promise(21, "day");
        Check.due("day() in a sale", x.day(), 0);
        Check.promise(22, "isOpen");
        Check.due("isOpen() in a sale", x.isOpen(), true);
        x.end();
        Check.due("isOpen() behind it", x.isOpen(), false);
        Check.promise(21, "day");
        Check.due("day() behind it", x.day(), 1);
        x.open();
        x.end();
        Check.due("day() behind two", x.day(), 2);
        x.pass(500);
        Check.due("ticks make no day", x.day(), 2);
        Check.promise(20, "now");
        Check.due("now()", x.now(), 507);
    }

    private static void told() {
        Check.promise(23, "told");
        Fishclock x = new Fishclock();
        x.buyer(3, 100000, 1);
        x.land(0, 0, 0, 7, 10, 9);
        x.land(0, 0, 0, 6, 10, 9);
        Check.refused("told(-1, 0)", Check.INDEX, () -> x.told(-1, 0));
        Check.refused("told(2, 0)", Check.INDEX, () -> x.told(2, 0));
        Check.refused("told(2, 5)", Check.INDEX, () -> x.told(2, 5));
        Check.refused("told(0, -1)", Check.ARGUMENT, () -> x.told(0, -1));
        Check.refused("told(0, 5)", Check.ARGUMENT, () -> x.told(0, 5));
        box(x, 0, Fishclock.LANDED, 7, Fishclock.NONE, Fishclock.NONE, Fishclock.NONE);
        x.open();
        box(x, 1, Fishclock.OFFERED, 6, Fishclock.NONE, Fishclock.NONE, 1);
        x.pass(4);
        x.press(3, 0);
        x.pass(2);
        x.take(3, 0, 1);
        box(x, 0, Fishclock.SOLD, 7, 3, 960, 0);
        x.lorry(3, 7, 1);
        x.pass(1);
        box(x, 0, Fishclock.GONE, 7, 3, 960, 0);
        x.pass(100);
        box(x, 1, Fishclock.CARRIED, 5, Fishclock.NONE, Fishclock.NONE, 1);
        x.end();
        box(x, 0, Fishclock.GONE, 7, 3, 960, Fishclock.NONE);
        box(x, 1, Fishclock.CARRIED, 5, Fishclock.NONE, Fishclock.NONE, Fishclock.NONE);
        x.open();
        box(x, 0, Fishclock.GONE, 7, 3, 960, Fishclock.NONE);
        box(x, 1, Fishclock.OFFERED, 5, Fishclock.NONE, Fishclock.NONE, 0);
        x.press(3, 0);
        x.pass(2);
        x.take(3, 0, 1);
        box(x, 1, Fishclock.SOLD, 5, 3, 1000, 0);
    }

    private static void box(Fishclock x, int box, int... want) {
        for (int what = 0; what < 5; what++) {
            Check.due("told(" + box + ", " + what + ")", x.told(box, what), want[what]);
        }
    }

    private static void lot() {
        Check.promise(24, "lot");
        Fishclock x = new Fishclock();
        x.land(5, 2, 1, 3, 10, 9);
        x.land(5, 2, 1, 3, 10, 9);
        Check.refused("lot(0, 0) without a sale", Check.INDEX, () -> x.lot(0, 0));
        Check.refused("lot(0, 6) without a sale", Check.INDEX, () -> x.lot(0, 6));
        x.open();
        int[] want = {5, 2, 1, 3, 2, 2};
        for (int what = 0; what < 6; what++) {
            Check.due("lot(0, " + what + ")", x.lot(0, what), want[what]);
        }
        Check.refused("lot(-1, 0)", Check.INDEX, () -> x.lot(-1, 0));
        Check.refused("lot(1, 0)", Check.INDEX, () -> x.lot(1, 0));
        Check.refused("lot(1, 6)", Check.INDEX, () -> x.lot(1, 6));
        Check.refused("lot(0, -1)", Check.ARGUMENT, () -> x.lot(0, -1));
        Check.refused("lot(0, 6)", Check.ARGUMENT, () -> x.lot(0, 6));
        x.pass(100);
        Check.due("lot(0, 5), withdrawn", x.lot(0, 5), 0);
        Check.due("lot(0, 3), though its boxes are less fresh now", x.lot(0, 3), 3);
        x.end();
        Check.refused("lot(0, 0) behind the sale", Check.INDEX, () -> x.lot(0, 0));
        x.open();
        Check.due("lot(0, 3) in the next sale", x.lot(0, 3), 2);
        Check.due("lot(0, 5) in the next sale", x.lot(0, 5), 2);
        Check.refused("lot(1, 0) in the next sale", Check.INDEX, () -> x.lot(1, 0));
    }

    private static void hall() {
        Check.promise(25, "hall");
        Fishclock x = new Fishclock();
        x.buyer(2, 100000, 1);
        x.land(0, 1, 0, 5, 10, 10);
        x.land(0, 1, 1, 5, 10, 10);
        Check.refused("hall(-1, 0)", Check.INDEX, () -> x.hall(-1, 0));
        Check.refused("hall(3, 0)", Check.INDEX, () -> x.hall(3, 0));
        Check.refused("hall(3, 5)", Check.INDEX, () -> x.hall(3, 5));
        Check.refused("hall(0, -1)", Check.ARGUMENT, () -> x.hall(0, -1));
        Check.refused("hall(0, 5)", Check.ARGUMENT, () -> x.hall(0, 5));
        x.open();
        clock(x, Fishclock.FALLING, 0, 1000, Fishclock.NONE, 2);
        x.pass(1);
        x.press(2, 1);
        clock(x, Fishclock.FALLING, 0, 990, Fishclock.NONE, 2);
        x.pass(1);
        clock(x, Fishclock.STANDING, 0, 990, Fishclock.NONE, 2);
        x.pass(1);
        clock(x, Fishclock.TAKING, 0, 990, 2, 2);
        x.power(1, false);
        clock(x, Fishclock.TAKING, 0, 990, 2, 2);
        x.power(1, true);
        x.take(2, 1, 1);
        clock(x, Fishclock.FALLING, 1, 1000, Fishclock.NONE, 1);
        x.pass(100);
        clock(x, Fishclock.EMPTY, Fishclock.NONE, 0, Fishclock.NONE, 0);
    }

    private static void clock(Fishclock x, int... want) {
        for (int what = 0; what < 5; what++) {
            Check.due("hall(1, " + what + ")", x.hall(1, what), want[what]);
        }
    }

    private static void account() {
        Check.promise(26, "account");
        Fishclock x = new Fishclock();
        Check.refused("account(-1, 0)", Check.INDEX, () -> x.account(-1, 0));
        Check.refused("account(8, 0)", Check.INDEX, () -> x.account(8, 0));
        Check.refused("account(8, 3)", Check.INDEX, () -> x.account(8, 3));
        Check.refused("account(0, -1)", Check.ARGUMENT, () -> x.account(0, -1));
        Check.refused("account(0, 3)", Check.ARGUMENT, () -> x.account(0, 3));
        x.buyer(6, 77777, 1);
        x.land(0, 0, 0, 5, 10, 10);
        x.land(0, 0, 0, 5, 20, 20);
        x.open();
        x.press(6, 0);
        x.pass(2);
        x.take(6, 0, 2);
        Check.due("account(6, 0)", x.account(6, 0), 77777);
        Check.due("account(6, 1)", x.account(6, 1), 30000);
        Check.due("account(6, 2)", x.account(6, 2), 2);
        Check.due("account(5, 1)", x.account(5, 1), 0);
        Check.due("account(5, 2)", x.account(5, 2), 0);
        x.lorry(6, 3, 1);
        x.pass(1);
        Check.due("account(6, 2), gone ones as well", x.account(6, 2), 2);
    }

    private static void ship() {
        Check.promise(27, "ship");
        Fishclock x = new Fishclock();
        Check.refused("ship(-1, 0)", Check.INDEX, () -> x.ship(-1, 0));
        Check.refused("ship(8, 0)", Check.INDEX, () -> x.ship(8, 0));
        Check.refused("ship(8, 3)", Check.INDEX, () -> x.ship(8, 3));
        Check.refused("ship(0, -1)", Check.ARGUMENT, () -> x.ship(0, -1));
        Check.refused("ship(0, 3)", Check.ARGUMENT, () -> x.ship(0, 3));
        x.quota(4, 0, 0);
        x.land(4, 0, 0, 5, 30, 1);
        x.land(4, 1, 0, 5, 40, 100);
        x.land(3, 1, 0, 5, 7, 7);
        x.aid(4, 45, false);
        Check.due("ship(4, 2), seized ones as well", x.ship(4, 2), 70);
        Check.due("ship(3, 2)", x.ship(3, 2), 7);
        Check.due("ship(4, 1)", x.ship(4, 1), 45);
        x.open();
        x.end();
        Check.due("ship(4, 0)", x.ship(4, 0), 800);
        Check.due("ship(4, 1)", x.ship(4, 1), 5);
        Check.due("ship(4, 2)", x.ship(4, 2), 70);
        Check.due("ship(3, 0)", x.ship(3, 0), 0);
    }

    private static void kilos() {
        Check.promise(28, "kilos");
        Fishclock x = new Fishclock();
        x.buyer(0, 10000000, 1);
        x.quota(7, 0, 0);
        x.land(7, 0, 0, 5, 1, 90);
        x.land(0, 0, 0, 5, 2, 90);
        x.land(0, 0, 0, 5, 4, 90);
        x.land(0, 1, 0, 5, 8, 90);
        x.land(0, 1, 1, 1, 16, 90);
        x.land(0, 2, 0, 5, 32, 90);
        x.aid(0, 8, false);
        sums(x, 63, 0, 0, 0, 1, 62);
        x.open();
        sums(x, 63, 0, 0, 0, 1, 62);
        x.press(0, 0);
        x.pass(2);
        x.take(0, 0, 2);
        sums(x, 63, 6, 0, 0, 1, 56);
        x.lorry(0, 3, 1);
        x.land(0, 0, 0, 5, 64, 90);
        x.pass(1);
        sums(x, 127, 6, 0, 0, 1, 120);
        x.end();
        sums(x, 127, 6, 8, 16, 1, 96);
        Check.refused("kilos(-1)", Check.ARGUMENT, () -> x.kilos(-1));
        Check.refused("kilos(6)", Check.ARGUMENT, () -> x.kilos(6));
        Check.promise(29, "kilosAnew");
        Check.refused("kilosAnew(-1)", Check.ARGUMENT, () -> x.kilosAnew(-1));
        Check.refused("kilosAnew(6)", Check.ARGUMENT, () -> x.kilosAnew(6));
    }

    private static void sums(Fishclock x, int... want) {
        for (int what = 0; what < 6; what++) {
            Check.promise(28, "kilos");
            Check.due("kilos(" + what + ")", x.kilos(what), want[what]);
            Check.promise(29, "kilosAnew");
            Check.due("kilosAnew(" + what + ")", x.kilosAnew(what), want[what]);
        }
    }

    private static void average() {
        Check.promise(30, "average");
        Fishclock x = new Fishclock();
        Check.refused("average(-1, 0)", Check.INDEX, () -> x.average(-1, 0));
        Check.refused("average(4, 0)", Check.INDEX, () -> x.average(4, 0));
        Check.refused("average(4, 1)", Check.INDEX, () -> x.average(4, 1));
        Check.refused("average(0, -1)", Check.ARGUMENT, () -> x.average(0, -1));
        Check.refused("average(0, 1)", Check.ARGUMENT, () -> x.average(0, 1));
        x.buyer(0, 10000000, 1);
        x.land(0, 0, 0, 5, 10, 1);
        x.land(0, 0, 0, 5, 5, 5);
        x.land(0, 0, 0, 5, 5, 5);
        x.land(0, 1, 0, 5, 5, 5);
        x.open();
        Check.due("average(0, 0), none sold", x.average(0, 0), Fishclock.NONE);
        x.press(0, 0);
        x.pass(2);
        x.take(0, 0, 1);
        Check.due("average(0, 0)", x.average(0, 0), 1000);
        x.pass(1);
        x.press(0, 0);
        x.pass(2);
        x.take(0, 0, 1);
        Check.due("average(0, 0): 14950 by 15", x.average(0, 0), 996);
        Check.due("average(1, 0)", x.average(1, 0), Fishclock.NONE);
        x.claim(0, 0);
        x.lorry(0, 6, 1);
        x.pass(1);
        Check.due("claims and lorries do not matter", x.average(0, 0), 996);
        x.end();
        Check.due("average(0, 1)", x.average(0, 1), Fishclock.NONE);
        Check.refused("average(0, 2)", Check.ARGUMENT, () -> x.average(0, 2));
        x.kind(1, 500, 100, 1);
        x.open();
        x.press(0, 1);
        x.pass(2);
        x.take(0, 1, 1);
        Check.due("average(1, 1)", x.average(1, 1), 500);
        Check.due("average(1, 0) yet", x.average(1, 0), Fishclock.NONE);
        Check.due("average(0, 0) yet", x.average(0, 0), 996);
        x.end();
        Check.due("average(1, 1) on the next day", x.average(1, 1), 500);

        Fishclock y = new Fishclock();
        y.buyer(0, 10000000, 1);
        y.step(0, 1);
        y.land(0, 0, 0, 5, 10, 10);
        y.land(0, 0, 0, 5, 1, 1);
        y.land(0, 1, 0, 5, 1, 1);
        y.open();
        y.press(0, 0);
        y.press(0, 1);
        y.pass(2);
        y.take(0, 0, 1);
        y.take(0, 1, 1);
        y.pass(1);
        y.press(0, 0);
        y.pass(2);
        y.take(0, 0, 1);
        Check.due("average(0, 0): 10999 by 11", y.average(0, 0), 999);
        Check.due("average(1, 0): of 1 kilo", y.average(1, 0), 1000);
    }
}
