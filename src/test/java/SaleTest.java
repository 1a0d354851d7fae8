/** Promises 10 to 15: boxes, sales, clocks. */
public final class SaleTest {
    public static void main(String[] args) {
        land();
        openRefuses();
        openDraws();
        openMakesLots();
        openWithAllBoxes();
        landedWhileOpen();
        end();
        withdrawnAnew();
        press();
        pressesWin();
        pressesAreLost();
        pressesThatCannotPay();
        take();
        takeFallsFromThePressedPrice();
        takenByTheClock();
        pass();
        falls();
        powerFails();
        threeHalls();
        Check.end();
    }

    private static void land() {
        Check.promise(10, "land");
        Fishclock x = new Fishclock();
        Check.due("land(0, 0, 0, 1, 1, 1)", x.land(0, 0, 0, 1, 1, 1), 0);
        Check.due("land(7, 3, 2, 9, 100, 100)", x.land(7, 3, 2, 9, 100, 100), 1);
        Check.due("told(1, 0)", x.told(1, 0), Fishclock.LANDED);
        Check.due("told(1, 1)", x.told(1, 1), 9);
        Check.refused("land(-1, 0, 0, 1, 1, 1)", Check.INDEX, () -> x.land(-1, 0, 0, 1, 1, 1));
        Check.refused("land(8, 0, 0, 1, 1, 1)", Check.INDEX, () -> x.land(8, 0, 0, 1, 1, 1));
        Check.refused("land(0, -1, 0, 1, 1, 1)", Check.INDEX, () -> x.land(0, -1, 0, 1, 1, 1));
        Check.refused("land(0, 4, 0, 1, 1, 1)", Check.INDEX, () -> x.land(0, 4, 0, 1, 1, 1));
        Check.refused("land(0, 4, 3, 0, 0, 0)", Check.INDEX, () -> x.land(0, 4, 3, 0, 0, 0));
        Check.refused("land(0, 0, -1, 1, 1, 1)", Check.ARGUMENT, () -> x.land(0, 0, -1, 1, 1, 1));
        Check.refused("land(0, 0, 3, 1, 1, 1)", Check.ARGUMENT, () -> x.land(0, 0, 3, 1, 1, 1));
        Check.refused("land(0, 0, 0, 0, 1, 1)", Check.ARGUMENT, () -> x.land(0, 0, 0, 0, 1, 1));
        Check.refused("land(0, 0, 0, 10, 1, 1)", Check.ARGUMENT, () -> x.land(0, 0, 0, 10, 1, 1));
        Check.refused("land(0, 0, 0, 1, 0, 1)", Check.ARGUMENT, () -> x.land(0, 0, 0, 1, 0, 1));
        Check.refused("land(0, 0, 0, 1, 101, 1)", Check.ARGUMENT, () -> x.land(0, 0, 0, 1, 101, 1));
        Check.refused("land(0, 0, 0, 1, 1, 0)", Check.ARGUMENT, () -> x.land(0, 0, 0, 1, 1, 0));
        Check.refused("land(0, 0, 0, 1, 1, 101)", Check.ARGUMENT, () -> x.land(0, 0, 0, 1, 1, 101));
        Check.due("kilos landed behind the refused ones", x.ship(0, 2), 1);
        for (int box = 2; box < 150; box++) {
            Check.due("land", x.land(box % 8, 0, 0, 5, 1, 1), box);
        }
        Check.refused("a box too many", Check.STATE, () -> x.land(0, 0, 0, 1, 1, 1));
        Check.refused("a box too many, out of range", Check.ARGUMENT, () -> x.land(0, 0, 3, 1, 1, 1));
        Check.refused("a box too many, of no boat", Check.INDEX, () -> x.land(8, 0, 3, 1, 1, 1));
        Check.due("kilos(0)", x.kilos(0), 249);
    }

    private static void openRefuses() {
        Check.promise(11, "open, refused");
        Fishclock x = new Fishclock();
        Check.refused("open() without boxes", Check.STATE, () -> x.open());
        x.quota(0, 0, 0);
        x.land(0, 0, 0, 5, 10, 10);
        Check.refused("open() with a seized box alone", Check.STATE, () -> x.open());
        Check.due("isOpen()", x.isOpen(), false);
        x.land(1, 0, 0, 5, 10, 10);
        Check.due("open()", x.open(), 1);
        Check.due("isOpen()", x.isOpen(), true);
        Check.due("a seized box is in no lot", x.told(0, 4), Fishclock.NONE);
        Check.due("it stays seized", x.told(0, 0), Fishclock.SEIZED);
        x.land(2, 0, 0, 5, 10, 10);
        Check.refused("open() while one is open", Check.STATE, () -> x.open());
        x.pass(91);
        Check.due("all halls are empty, yet it is open", x.hall(0, 0) == Fishclock.EMPTY && x.isOpen(), true);
        Check.refused("open() while that one is open", Check.STATE, () -> x.open());
    }

    /** The order of the boats as the document draws them, found here box by box. */
    private static void openDraws() {
        Check.promise(11, "open, boats drawn");
        int[] seeds = {1, 0, -1, 2147483647, -2147483648, 12345, 99, -100000, 7654321, 31};
        for (int seed : seeds) {
            Fishclock x = new Fishclock();
            boolean[] isDay = {false, true, false, true, true, false, false, true};
            for (int boat = 7; boat >= 0; boat--) {
                if (isDay[boat]) {
                    x.aid(boat, 0, true);
                }
                if (boat != 4) {
                    x.land(boat, 0, 0, 5, 1, 1);
                }
            }
            x.draw(seed);
            Check.due("open()", x.open(), 7);
            String order = "";
            for (int lot = 0; lot < 7; lot++) {
                order += x.lot(lot, 0);
            }
            int[] state = {seed};
            String want = drawn("137", state) + drawn("0256", state);
            Check.due("the order of the boats from " + seed, order, want);
            Check.due("x is kept", x.draw(0), state[0]);
        }
    }

    private static String drawn(String boats, int[] state) {
        StringBuilder left = new StringBuilder(boats);
        String order = "";
        while (left.length() > 0) {
            state[0] = state[0] * 1103515245 + 12345;
            int place = (state[0] >>> 16) % left.length();
            order += left.charAt(place);
            left.deleteCharAt(place);
        }
        return order;
    }

    private static void openMakesLots() {
        Check.promise(11, "open, lots");
        Fishclock x = new Fishclock();
        x.land(1, 1, 0, 3, 10, 10); // 0
        x.land(1, 0, 2, 9, 11, 10); // 1
        x.land(1, 0, 0, 4, 12, 10); // 2
        x.land(1, 0, 0, 8, 13, 10); // 3
        x.land(1, 1, 0, 3, 14, 10); // 4
        x.land(1, 0, 0, 4, 15, 10); // 5
        x.land(1, 3, 1, 1, 16, 10); // 6
        x.land(1, 0, 2, 9, 17, 10); // 7
        x.land(1, 0, 1, 9, 18, 10); // 8
        Check.due("open()", x.open(), 6);
        int[][] lots = {{1, 0, 0, 8, 0, 1}, {1, 0, 0, 4, 0, 2}, {1, 0, 1, 9, 0, 1}, {1, 0, 2, 9, 0, 2},
            {1, 1, 0, 3, 1, 2}, {1, 3, 1, 1, 0, 1}};
        for (int lot = 0; lot < 6; lot++) {
            for (int what = 0; what < 6; what++) {
                Check.due("lot(" + lot + ", " + what + ")", x.lot(lot, what), lots[lot][what]);
            }
        }
        int[] lotOfBox = {4, 3, 1, 0, 4, 1, 5, 3, 2};
        for (int box = 0; box < 9; box++) {
            Check.due("told(" + box + ", 4)", x.told(box, 4), lotOfBox[box]);
            Check.due("told(" + box + ", 0)", x.told(box, 0), Fishclock.OFFERED);
        }
        Check.due("hall(0, 4)", x.hall(0, 4), 5);
        Check.due("hall(1, 4)", x.hall(1, 4), 1);
        Check.due("hall(2, 4)", x.hall(2, 4), 0);
        Check.due("hall(0, 1)", x.hall(0, 1), 0);
        Check.due("hall(1, 1)", x.hall(1, 1), 4);
        Check.due("hall(2, 1)", x.hall(2, 1), Fishclock.NONE);

        Fishclock y = new Fishclock();
        for (int box = 0; box < 150; box++) {
            y.land(box % 8, box / 8 % 4, box / 32 % 3, 1 + box / 96 % 9, 1, 1);
        }
        Check.due("as many lots as boxes", y.open(), 150);
        Check.due("one box in the last lot", y.lot(149, 5), 1);
        Check.due("all are offered", y.kilos(5), 150);
        Check.due("end()", y.end(), 150);
    }

    private static void landedWhileOpen() {
        Check.promise(11, "open, what lands then");
        Fishclock x = new Fishclock();
        x.land(1, 0, 0, 5, 10, 10);
        x.open();
        x.land(1, 0, 0, 5, 10, 10);
        Check.due("it waits", x.told(1, 0), Fishclock.LANDED);
        Check.due("it is in no lot", x.told(1, 4), Fishclock.NONE);
        Check.due("the lot has not more", x.lot(0, 5), 1);
        Check.due("end()", x.end(), 1);
        Check.due("it is not withdrawn", x.told(1, 0), Fishclock.LANDED);
        Check.due("open(): of freshness 5 and 4", x.open(), 2);
        Check.due("the fresher one first", x.told(1, 4), 0);
        Check.due("the carried one behind", x.told(0, 4), 1);
        Check.due("lot(1, 3)", x.lot(1, 3), 4);
    }

    private static void openWithAllBoxes() {
        Check.promise(11, "open, all boxes in one lot");
        Fishclock x = new Fishclock();
        x.buyer(0, 100000000, 1);
        x.quota(0, 0, 100000);
        for (int box = 0; box < 150; box++) {
            x.land(0, 0, 0, 2, 1 + box % 100, 50);
        }
        x.open();
        Check.due("all are withdrawn", x.end(), 150);
        Check.due("and offered again", x.open(), 1);
        Check.due("lot(0, 5)", x.lot(0, 5), 150);
        x.press(0, 0);
        x.pass(2);
        Check.due("take(0, 0, 149)", x.take(0, 0, 149), 6275000);
        Check.due("the last one is left", x.told(149, 0), Fishclock.OFFERED);
        x.press(0, 0);
        x.pass(2);
        Check.due("take(0, 0, 1)", x.take(0, 0, 1), 50000);
    }

    private static void end() {
        Check.promise(12, "end");
        Fishclock x = new Fishclock();
        Check.refused("end() without a sale", Check.STATE, () -> x.end());
        x.buyer(0, 1000000, 1);
        x.land(0, 0, 0, 1, 10, 10);
        x.land(0, 0, 0, 1, 10, 10);
        x.land(0, 0, 0, 1, 10, 10);
        x.land(0, 1, 0, 1, 10, 10);
        x.land(0, 2, 0, 2, 10, 10);
        x.aid(0, 19, false);
        x.open();
        x.press(0, 0);
        x.press(0, 1);
        x.press(0, 2);
        x.pass(2);
        x.take(0, 0, 1);
        Check.due("end()", x.end(), 4);
        Check.due("the sold one", x.told(0, 0), Fishclock.SOLD);
        Check.due("the first of the lowest lot has the aid", x.told(1, 0), Fishclock.MEAL);
        Check.due("the aid is not enough", x.told(2, 0), Fishclock.ROTTEN);
        Check.due("of the freshness 1", x.told(3, 0), Fishclock.ROTTEN);
        Check.due("of the freshness 2", x.told(4, 0), Fishclock.CARRIED);
        Check.due("its freshness is 1 less", x.told(4, 1), 1);
        Check.due("that of a rotten one is not", x.told(3, 1), 1);
        Check.due("day()", x.day(), 1);
        Check.due("now()", x.now(), 2);
        Check.due("isOpen()", x.isOpen(), false);
        for (int hall = 0; hall < 3; hall++) {
            Check.due("hall(" + hall + ", 0)", x.hall(hall, 0), Fishclock.EMPTY);
            Check.due("hall(" + hall + ", 1)", x.hall(hall, 1), Fishclock.NONE);
            Check.due("hall(" + hall + ", 2)", x.hall(hall, 2), 0);
            Check.due("hall(" + hall + ", 3)", x.hall(hall, 3), Fishclock.NONE);
            Check.due("hall(" + hall + ", 4)", x.hall(hall, 4), 0);
        }
        Check.refused("lot(0, 0)", Check.INDEX, () -> x.lot(0, 0));
        Check.due("told(0, 4)", x.told(0, 4), Fishclock.NONE);
        Check.refused("end() again", Check.STATE, () -> x.end());
        Check.due("the carried one is offered again", x.open(), 1);
        Check.due("hall(2, 0)", x.hall(2, 0), Fishclock.FALLING);
        Check.due("presses of the sale before are lost", x.press(0, 2), 1000);
    }

    private static void withdrawnAnew() {
        Check.promise(12, "end, withdrawn again");
        Fishclock x = new Fishclock();
        x.land(0, 0, 0, 9, 10, 10);
        x.land(0, 0, 0, 9, 5, 5);
        x.aid(0, 5, false);
        x.open();
        Check.due("end()", x.end(), 2);
        Check.due("too heavy for the aid", x.told(0, 0), Fishclock.CARRIED);
        Check.due("light enough for it", x.told(1, 0), Fishclock.MEAL);
        Check.due("8 is left of 9", x.told(0, 1), 8);
        x.open();
        Check.due("offered with 8", x.lot(0, 3), 8);
        x.pass(91);
        Check.due("carried before", x.told(0, 0), Fishclock.ROTTEN);
        Check.due("8 is left still", x.told(0, 1), 8);
        Check.due("withdrawn in it, it keeps its lot", x.told(0, 4), 0);
        Check.due("a box of the sale before has none", x.told(1, 4), Fishclock.NONE);
        Check.due("the lot has none left", x.lot(0, 5), 0);
        Check.due("end(): none is offered still", x.end(), 0);
        Check.refused("open() with none that waits", Check.STATE, () -> x.open());
    }

    private static void press() {
        Check.promise(13, "press");
        Fishclock x = new Fishclock();
        Check.refused("press(0, 0) without a sale", Check.STATE, () -> x.press(0, 0));
        x.buyer(0, 1000000, 1);
        x.buyer(1, 1000000, 1);
        x.land(0, 0, 0, 5, 10, 10);
        x.land(0, 0, 0, 5, 10, 10);
        x.land(0, 1, 0, 5, 10, 10);
        x.open();
        Check.refused("press(-1, 0)", Check.INDEX, () -> x.press(-1, 0));
        Check.refused("press(8, 0)", Check.INDEX, () -> x.press(8, 0));
        Check.refused("press(0, -1)", Check.INDEX, () -> x.press(0, -1));
        Check.refused("press(0, 3)", Check.INDEX, () -> x.press(0, 3));
        Check.refused("press(0, 2), an empty hall", Check.STATE, () -> x.press(0, 2));
        x.pass(3);
        Check.due("press(0, 0)", x.press(0, 0), 970);
        Check.due("press(0, 1), another hall", x.press(0, 1), 970);
        Check.refused("press(0, 0) again", Check.STATE, () -> x.press(0, 0));
        Check.due("press(1, 0)", x.press(1, 0), 970);
        x.pass(1);
        Check.due("the clock stands at the price", x.hall(0, 2), 970);
        Check.refused("press(2, 0), standing", Check.STATE, () -> x.press(2, 0));
        x.pass(1);
        Check.refused("press(2, 0), taking", Check.STATE, () -> x.press(2, 0));
        x.take(0, 0, 1);
        Check.due("press(0, 0) in the next round", x.press(0, 0), 970);
        x.power(0, false);
        Check.refused("press(2, 0) without power", Check.STATE, () -> x.press(2, 0));
        Check.refused("press(8, 0) without power", Check.INDEX, () -> x.press(8, 0));
        x.power(0, true);
        x.line(2, false);
        Check.refused("press(2, 0) without a line", Check.STATE, () -> x.press(2, 0));
    }

    private static Fishclock withBuyers(int... delays) {
        Fishclock x = new Fishclock();
        for (int buyer = 0; buyer < delays.length; buyer++) {
            x.buyer(buyer, 100000000, delays[buyer]);
        }
        for (int box = 0; box < 4; box++) {
            x.land(0, 0, 0, 5, 10, 10);
        }
        x.open();
        return x;
    }

    private static void pressesWin() {
        Check.promise(13, "press, who wins");
        Fishclock x = withBuyers(1, 1, 4, 2);
        x.pass(2);
        x.press(2, 0); // 980, comes in 6
        x.pass(1);
        x.press(3, 0); // 970, comes in 5
        x.pass(1);
        x.press(0, 0); // 960, comes in 5
        Check.due("falling still", x.hall(0, 2), 960);
        x.pass(1);
        Check.due("standing in 5", x.hall(0, 0), Fishclock.STANDING);
        Check.due("no winner yet", x.hall(0, 3), Fishclock.NONE);
        x.pass(3);
        Check.due("standing in 8", x.hall(0, 0), Fishclock.STANDING);
        Check.due("at 960", x.hall(0, 2), 960);
        x.pass(1);
        Check.due("taking in 9", x.hall(0, 0), Fishclock.TAKING);
        Check.due("the greatest price wins", x.hall(0, 3), 2);
        Check.due("hall(0, 2) is that of the winner", x.hall(0, 2), 980);

        Fishclock v = withBuyers(1, 2);
        v.step(0, 1);
        v.press(1, 0); // 1000, comes in 2
        v.pass(1);
        v.press(0, 0); // 999, comes in 2
        v.pass(3);
        Check.due("greater by 1", v.hall(0, 3), 1);

        Fishclock y = withBuyers(1, 1, 1);
        y.pass(1);
        y.press(2, 0);
        y.press(1, 0);
        y.pass(2);
        Check.due("of the same price and tick the lowest", y.hall(0, 3), 1);

        Fishclock z = withBuyers(1, 5, 5);
        z.power(0, true);
        z.press(2, 0); // 1000 in tick 0
        z.power(0, false);
        z.pass(1);
        z.power(0, true);
        z.press(1, 0); // 1000 in tick 1
        z.pass(9);
        Check.due("standing from 5 to 10", z.hall(0, 0), Fishclock.TAKING);
        Check.due("of the same price the earlier one", z.hall(0, 3), 2);

        Fishclock w = withBuyers(1, 2);
        w.press(1, 0);
        w.buyer(7, 0, 9);
        w.pass(2);
        w.buyer(7, 0, 1);
        w.pass(8);
        Check.due("the greatest delay as it was heard counts", w.hall(0, 0), Fishclock.STANDING);
        w.pass(1);
        Check.due("then it ends", w.hall(0, 0), Fishclock.TAKING);
    }

    private static void pressesAreLost() {
        Check.promise(13, "press, those that are lost");
        Fishclock x = withBuyers(1, 9);
        x.press(1, 0); // 1000, comes in 9
        x.buyer(1, 100000000, 1);
        x.pass(2);
        x.press(0, 0); // 980, comes in 3
        x.pass(2);
        Check.due("the late press does not count", x.hall(0, 3), 0);
        Check.due("take(0, 0, 1)", x.take(0, 0, 1), 9800);
        x.pass(10);
        Check.due("it is lost in the next round", x.hall(0, 0), Fishclock.FALLING);
        Check.due("down from 980", x.hall(0, 2), 880);

        Fishclock y = withBuyers(1, 9);
        y.press(1, 0);
        y.kind(0, 800, 995, 0);
        y.land(0, 0, 0, 5, 10, 10);
        y.pass(1);
        Check.due("the lot is withdrawn", y.hall(0, 0), Fishclock.EMPTY);

        Fishclock z = new Fishclock();
        z.buyer(0, 1000000, 9);
        z.land(0, 0, 0, 5, 10, 10);
        z.land(0, 0, 1, 5, 10, 10);
        z.step(0, 500);
        z.kind(0, 600, 200, 0);
        z.open();
        z.press(0, 0);
        z.pass(1);
        Check.due("the next lot is at the clock", z.hall(0, 1), 1);
        Check.due("a press for it", z.press(0, 0), 600);
        z.step(0, 1);
        z.pass(8);
        Check.due("the press for the lot before does not come", z.hall(0, 0), Fishclock.FALLING);
        z.pass(1);
        Check.due("that for this one does", z.hall(0, 0), Fishclock.STANDING);
    }

    private static void pressesThatCannotPay() {
        Check.promise(13, "press, within guarantees");
        Fishclock x = new Fishclock();
        x.buyer(0, 9999, 1);
        x.buyer(1, 9900, 1);
        x.land(0, 0, 0, 5, 10, 10);
        x.land(0, 0, 0, 5, 1, 1);
        x.open();
        x.press(0, 0);
        x.pass(1);
        x.pass(1);
        Check.due("none counts: falling again", x.hall(0, 0), Fishclock.FALLING);
        Check.due("at the price that it had", x.hall(0, 2), 1000);
        Check.due("a new round: it can press again", x.press(0, 0), 1000);
        x.power(0, false);
        x.pass(1);
        x.power(0, true);
        x.pass(2);
        Check.due("falling again", x.hall(0, 0), Fishclock.FALLING);
        x.pass(1);
        Check.due("and down", x.hall(0, 2), 990);
        x.press(1, 0);
        x.pass(2);
        Check.due("just enough for the first box", x.hall(0, 3), 1);
        Check.due("take(1, 0, 1)", x.take(1, 0, 1), 9900);
        x.press(1, 0);
        x.press(0, 0);
        x.pass(2);
        Check.due("less what it owes nothing is left", x.hall(0, 3), 0);
        x.end();

        Fishclock y = new Fishclock();
        y.buyer(0, 5000, 2);
        y.buyer(1, 100000, 1);
        y.land(0, 0, 0, 5, 10, 10);
        y.open();
        y.press(0, 0);
        y.pass(1);
        y.press(1, 0);
        y.pass(3);
        Check.due("the greater price has no guarantee", y.hall(0, 3), 1);
        Check.due("hall(0, 2)", y.hall(0, 2), 990);
    }

    private static void take() {
        Check.promise(14, "take");
        Fishclock x = new Fishclock();
        x.buyer(0, 35000, 1);
        x.buyer(1, 1000000, 1);
        x.land(0, 0, 0, 5, 10, 10);
        x.land(0, 0, 0, 5, 20, 20);
        x.land(0, 0, 0, 5, 5, 5);
        x.land(0, 0, 0, 5, 1, 1);
        x.land(1, 0, 0, 5, 1, 1);
        x.draw(1);
        x.open();
        Check.due("the boat 0 is first", x.lot(0, 0), 0);
        Check.refused("take(0, 0, 1), falling", Check.STATE, () -> x.take(0, 0, 1));
        Check.refused("take(0, 1, 1), empty", Check.STATE, () -> x.take(0, 1, 1));
        x.press(0, 0);
        x.pass(1);
        Check.refused("take(0, 0, 1), standing", Check.STATE, () -> x.take(0, 0, 1));
        x.pass(1);
        Check.refused("take(-1, 0, 1)", Check.INDEX, () -> x.take(-1, 0, 1));
        Check.refused("take(8, 0, 1)", Check.INDEX, () -> x.take(8, 0, 1));
        Check.refused("take(0, -1, 1)", Check.INDEX, () -> x.take(0, -1, 1));
        Check.refused("take(0, 3, 1)", Check.INDEX, () -> x.take(0, 3, 1));
        Check.refused("take(0, 3, 0)", Check.INDEX, () -> x.take(0, 3, 0));
        Check.refused("take(1, 0, 1), not won", Check.STATE, () -> x.take(1, 0, 1));
        Check.refused("take(0, 0, 0)", Check.STATE, () -> x.take(0, 0, 0));
        Check.refused("take(0, 0, -1)", Check.STATE, () -> x.take(0, 0, -1));
        Check.refused("take(0, 0, 5)", Check.STATE, () -> x.take(0, 0, 5));
        Check.refused("take(0, 0, 2147483647)", Check.STATE, () -> x.take(0, 0, 2147483647));
        Check.refused("take(0, 0, 4), above the guarantee", Check.STATE, () -> x.take(0, 0, 4));
        x.power(0, false);
        Check.refused("take(0, 0, 1) without power", Check.STATE, () -> x.take(0, 0, 1));
        x.power(0, true);
        Check.due("nothing is owed yet", x.account(0, 1), 0);
        Check.due("take(0, 0, 3), all of the guarantee", x.take(0, 0, 3), 35000);
        Check.due("account(0, 1)", x.account(0, 1), 35000);
        Check.due("account(0, 2)", x.account(0, 2), 3);
        Check.due("ship(0, 0)", x.ship(0, 0), 35000);
        Check.due("told(2, 0)", x.told(2, 0), Fishclock.SOLD);
        Check.due("told(2, 2)", x.told(2, 2), 0);
        Check.due("told(2, 3)", x.told(2, 3), 1000);
        Check.due("told(2, 4)", x.told(2, 4), 0);
        Check.due("told(3, 0)", x.told(3, 0), Fishclock.OFFERED);
        Check.due("told(3, 2)", x.told(3, 2), Fishclock.NONE);
        Check.due("lot(0, 5)", x.lot(0, 5), 1);
        Check.due("the lot stays", x.hall(0, 1), 0);
        x.press(1, 0);
        x.pass(2);
        Check.due("take(1, 0, 1), the last one", x.take(1, 0, 1), 1000);
        Check.due("the next lot", x.hall(0, 1), 1);
        Check.due("hall(0, 4)", x.hall(0, 4), 1);
        Check.due("at its start", x.hall(0, 2), 1000);
        x.pass(1);
        Check.due("it falls in the next tick", x.hall(0, 2), 990);
        x.press(1, 0);
        x.pass(2);
        x.take(1, 0, 1);
        Check.due("no lot is left", x.hall(0, 0), Fishclock.EMPTY);
        Check.due("none at the clock", x.hall(0, 1), Fishclock.NONE);
        Check.due("no winner", x.hall(0, 3), Fishclock.NONE);
        Check.due("ship(1, 0)", x.ship(1, 0), 990);
    }

    private static void takeFallsFromThePressedPrice() {
        Check.promise(14, "take, and the price then");
        Fishclock x = withBuyers(3);
        x.pass(1);
        Check.due("press(0, 0)", x.press(0, 0), 990);
        x.pass(2);
        Check.due("falling as the press is under way", x.hall(0, 2), 970);
        x.pass(1);
        Check.due("standing", x.hall(0, 2), 970);
        x.pass(3);
        Check.due("hall(0, 2), taking", x.hall(0, 2), 990);
        x.take(0, 0, 2);
        Check.due("from the price of the press", x.hall(0, 2), 990);
        Check.due("falling", x.hall(0, 0), Fishclock.FALLING);
        Check.due("no winner", x.hall(0, 3), Fishclock.NONE);
        x.pass(1);
        Check.due("down from there", x.hall(0, 2), 980);
    }

    private static void takenByTheClock() {
        Check.promise(14, "take, not in time");
        Fishclock x = withBuyers(2);
        x.press(0, 0);
        x.pass(4);
        Check.due("taking in 4", x.hall(0, 0), Fishclock.TAKING);
        x.pass(2);
        Check.due("taking in 6", x.hall(0, 0), Fishclock.TAKING);
        x.pass(1);
        Check.due("falling in 7", x.hall(0, 0), Fishclock.FALLING);
        Check.due("at the price of the press", x.hall(0, 2), 1000);
        Check.due("the first box is sold", x.told(0, 0), Fishclock.SOLD);
        Check.due("the second is not", x.told(1, 0), Fishclock.OFFERED);
        Check.due("account(0, 1)", x.account(0, 1), 10000);
        Check.due("press(0, 0)", x.press(0, 0), 1000);
        x.pass(4);
        x.buyer(0, 19999, 2);
        x.pass(3);
        Check.due("the guarantee is not enough", x.told(1, 0), Fishclock.OFFERED);
        Check.due("falling yet", x.hall(0, 0), Fishclock.FALLING);
        Check.due("at 1000 yet", x.hall(0, 2), 1000);
        x.buyer(0, 20000, 2);
        x.press(0, 0);
        x.pass(7);
        Check.due("just enough", x.told(1, 0), Fishclock.SOLD);

        Fishclock y = new Fishclock();
        y.buyer(0, 100000, 1);
        y.land(0, 0, 0, 5, 10, 10);
        y.land(0, 0, 1, 5, 10, 10);
        y.open();
        y.press(0, 0);
        y.pass(5);
        Check.due("the only box: the next lot", y.hall(0, 1), 1);
        Check.due("at its start", y.hall(0, 2), 1000);
        y.pass(1);
        Check.due("then down", y.hall(0, 2), 990);
    }

    private static void pass() {
        Check.promise(15, "pass");
        Fishclock x = new Fishclock();
        Check.due("pass(1)", x.pass(1), 1);
        Check.due("pass(500)", x.pass(500), 501);
        Check.refused("pass(0)", Check.ARGUMENT, () -> x.pass(0));
        Check.refused("pass(-1)", Check.ARGUMENT, () -> x.pass(-1));
        Check.refused("pass(501)", Check.ARGUMENT, () -> x.pass(501));
        while (x.now() < 99501) {
            x.pass(500);
        }
        Check.refused("pass(500) beyond 100000", Check.STATE, () -> x.pass(500));
        Check.refused("pass(501) beyond 100000", Check.ARGUMENT, () -> x.pass(501));
        Check.due("pass(499)", x.pass(499), 100000);
        Check.refused("pass(1) beyond 100000", Check.STATE, () -> x.pass(1));
        Check.due("now()", x.now(), 100000);
        Check.refused("no tick is left for a lorry", Check.ARGUMENT, () -> x.lorry(0, 100001, 1));
    }

    private static void falls() {
        Check.promise(15, "pass, prices fall");
        Fishclock x = new Fishclock();
        x.kind(0, 170, 155, 0);
        x.step(0, 1);
        for (int size = 0; size < 3; size++) {
            x.land(0, 0, size, 5, 10, 10);
        }
        x.open();
        x.pass(15);
        Check.due("at the minimum of 155", x.hall(0, 2), 155);
        Check.due("the lot 0", x.hall(0, 1), 0);
        x.pass(1);
        Check.due("withdrawn", x.told(0, 0), Fishclock.CARRIED);
        Check.due("the lot 1 in that tick", x.hall(0, 1), 1);
        Check.due("its start in that tick", x.hall(0, 2), 170);
        Check.due("hall(0, 4)", x.hall(0, 4), 2);
        Check.due("a start below the minimum can be pressed", x.press(7, 0), 170);
        x.power(0, false);
        x.kind(0, 180, 155, 0);
        x.power(0, true);
        x.pass(2);
        Check.due("standing, and none counts", x.hall(0, 0), Fishclock.FALLING);
        x.pass(1);
        Check.due("169 is below 170.5, rounded down 170", x.hall(0, 1), 2);
        Check.due("180", x.hall(0, 2), 180);
        x.kind(0, 180, 149, 0);
        x.pass(2);
        Check.due("178 is the minimum of the size 2", x.hall(0, 2), 178);
        x.pass(1);
        Check.due("below", x.hall(0, 0), Fishclock.EMPTY);
        Check.due("end()", x.end(), 0);
        Check.due("kilos(5)", x.kilos(5), 30);
    }

    private static void powerFails() {
        Check.promise(15, "pass, without power");
        Fishclock x = withBuyers(2, 1);
        x.press(0, 0);
        x.power(0, false);
        x.pass(5);
        Check.due("falling", x.hall(0, 0), Fishclock.FALLING);
        x.power(0, true);
        x.pass(1);
        Check.due("heard late, in 6", x.hall(0, 0), Fishclock.STANDING);
        x.power(0, false);
        x.pass(1);
        x.power(0, true);
        x.pass(1);
        Check.due("ticks without power go by as well: 8", x.hall(0, 0), Fishclock.TAKING);
        x.power(0, false);
        x.pass(10);
        Check.due("taking yet", x.hall(0, 0), Fishclock.TAKING);
        Check.due("its winner", x.hall(0, 3), 0);
        x.power(0, true);
        Check.due("nothing is sold yet", x.told(0, 0), Fishclock.OFFERED);
        x.pass(1);
        Check.due("the first box in a later tick", x.told(0, 0), Fishclock.SOLD);
        x.press(1, 0);
        x.pass(1);
        x.power(0, false);
        x.pass(9);
        Check.due("standing yet", x.hall(0, 0), Fishclock.STANDING);
        x.power(0, true);
        x.pass(1);
        Check.due("won in a later tick", x.hall(0, 3), 1);
        x.pass(2);
        Check.due("taking", x.hall(0, 0), Fishclock.TAKING);
        x.pass(1);
        Check.due("counted from the tick in which it won", x.told(1, 0), Fishclock.SOLD);

        Fishclock y = withBuyers(1, 3);
        y.press(1, 0); // 1000, comes in 3
        y.pass(1);
        y.press(0, 0); // 990, comes in 2
        y.pass(1);
        y.power(0, false);
        y.pass(3);
        y.power(0, true);
        y.pass(1);
        Check.due("what should have come ahead is heard as it stands", y.hall(0, 3), 1);
    }

    private static void threeHalls() {
        Check.promise(15, "pass, three halls");
        Fishclock x = new Fishclock();
        x.buyer(0, 20000, 1);
        x.land(0, 0, 0, 5, 20, 20);
        x.land(0, 1, 0, 5, 20, 20);
        x.land(0, 2, 0, 5, 20, 20);
        x.aid(0, 20, false);
        x.step(1, 500);
        x.open();
        x.press(0, 0);
        x.press(0, 2);
        x.pass(2);
        Check.due("won in the hall 0", x.hall(0, 3), 0);
        Check.due("won in the hall 2", x.hall(2, 3), 0);
        Check.due("withdrawn in the hall 1", x.told(1, 0), Fishclock.MEAL);
        x.pass(3);
        Check.due("the hall 0 goes ahead", x.told(0, 0), Fishclock.SOLD);
        Check.due("nothing is left for the hall 2", x.told(2, 0), Fishclock.OFFERED);
        Check.due("it falls again", x.hall(2, 0), Fishclock.FALLING);

        Fishclock y = new Fishclock();
        for (int kind = 0; kind < 3; kind++) {
            y.kind(kind, 1000, 995, 2 - kind);
            y.land(0, kind, 0, 5, 10, 10);
        }
        y.aid(0, 10, false);
        y.open();
        y.pass(1);
        Check.due("the hall 0 has the aid", y.told(2, 0), Fishclock.MEAL);
        Check.due("the hall 2 has none", y.told(0, 0), Fishclock.CARRIED);
    }
}
