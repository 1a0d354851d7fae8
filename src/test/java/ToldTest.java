/** Promises 1 to 9: a new object, and what is told. */
public final class ToldTest {
    public static void main(String[] args) {
        aNewObject();
        quota();
        quotaSeizes();
        aid();
        kind();
        kindHoldsForLotsToCome();
        step();
        buyer();
        draw();
        power();
        line();
        Check.end();
    }

    private static void aNewObject() {
        Check.promise(1, "a new object");
        Fishclock x = new Fishclock();
        Check.due("now()", x.now(), 0);
        Check.due("day()", x.day(), 0);
        Check.due("isOpen()", x.isOpen(), false);
        Check.refused("told(0, 0)", Check.INDEX, () -> x.told(0, 0));
        Check.refused("lot(0, 0)", Check.INDEX, () -> x.lot(0, 0));
        Check.refused("loaded(0)", Check.INDEX, () -> x.loaded(0));
        for (int hall = 0; hall < 3; hall++) {
            Check.due("hall(" + hall + ", 0)", x.hall(hall, 0), Fishclock.EMPTY);
            Check.due("hall(" + hall + ", 1)", x.hall(hall, 1), Fishclock.NONE);
            Check.due("hall(" + hall + ", 2)", x.hall(hall, 2), 0);
            Check.due("hall(" + hall + ", 3)", x.hall(hall, 3), Fishclock.NONE);
            Check.due("hall(" + hall + ", 4)", x.hall(hall, 4), 0);
        }
        for (int one = 0; one < 8; one++) {
            for (int what = 0; what < 3; what++) {
                Check.due("account(" + one + ", " + what + ")", x.account(one, what), 0);
                Check.due("ship(" + one + ", " + what + ")", x.ship(one, what), 0);
            }
        }
        for (int what = 0; what < 6; what++) {
            Check.due("kilos(" + what + ")", x.kilos(what), 0);
            Check.due("kilosAnew(" + what + ")", x.kilosAnew(what), 0);
        }
        Check.due("average(0, 0)", x.average(0, 0), Fishclock.NONE);
    }

    private static void quota() {
        Check.promise(2, "quota");
        Fishclock x = new Fishclock();
        for (int boat = 0; boat < 8; boat++) {
            for (int kind = 0; kind < 4; kind++) {
                Check.due("the first quota", x.quota(boat, kind, boat * 4 + kind), 10000);
            }
        }
        for (int boat = 0; boat < 8; boat++) {
            for (int kind = 0; kind < 4; kind++) {
                Check.due("the quota that was told", x.quota(boat, kind, 0), boat * 4 + kind);
            }
        }
        Check.due("quota(7, 3, 100000)", x.quota(7, 3, 100000), 0);
        Check.refused("quota(-1, 0, 5)", Check.INDEX, () -> x.quota(-1, 0, 5));
        Check.refused("quota(8, 0, 5)", Check.INDEX, () -> x.quota(8, 0, 5));
        Check.refused("quota(0, -1, 5)", Check.INDEX, () -> x.quota(0, -1, 5));
        Check.refused("quota(0, 4, 5)", Check.INDEX, () -> x.quota(0, 4, 5));
        Check.refused("quota(7, 3, -1)", Check.ARGUMENT, () -> x.quota(7, 3, -1));
        Check.refused("quota(7, 3, 100001)", Check.ARGUMENT, () -> x.quota(7, 3, 100001));
        Check.refused("quota(8, 3, -1)", Check.INDEX, () -> x.quota(8, 3, -1));
        Check.refused("quota(7, 4, 100001)", Check.INDEX, () -> x.quota(7, 4, 100001));
        Check.due("quota(7, 3, 1) behind the refused ones", x.quota(7, 3, 1), 100000);
    }

    private static void quotaSeizes() {
        Check.promise(2, "quota, and what is seized");
        Fishclock x = new Fishclock();
        x.quota(1, 2, 19);
        Check.due("a box up to the quota and its tenth", state(x, x.land(1, 2, 0, 5, 20, 20)), Fishclock.LANDED);
        Check.due("a box above", state(x, x.land(1, 2, 0, 5, 1, 1)), Fishclock.SEIZED);
        Check.due("a box of another kind", state(x, x.land(1, 1, 0, 5, 100, 1)), Fishclock.LANDED);
        Check.due("a box of another boat", state(x, x.land(0, 2, 0, 5, 100, 1)), Fishclock.LANDED);
        x.quota(1, 2, 20);
        Check.due("seized ones count", state(x, x.land(1, 2, 0, 5, 2, 1)), Fishclock.SEIZED);
        Check.due("what was landed stays so", x.told(0, 0), Fishclock.LANDED);
        x.quota(1, 2, 30);
        Check.due("33 of 33", state(x, x.land(1, 2, 0, 5, 10, 100)), Fishclock.LANDED);
        Check.due("what was seized stays so", x.told(1, 0), Fishclock.SEIZED);
        x.quota(2, 0, 0);
        Check.due("a quota of 0", state(x, x.land(2, 0, 0, 5, 1, 1)), Fishclock.SEIZED);

        Fishclock y = new Fishclock();
        for (int i = 0; i < 110; i++) {
            Check.due("a box up to 11000", state(y, y.land(0, 0, 0, 5, 100, 100)), Fishclock.LANDED);
        }
        Check.due("a box above 11000", state(y, y.land(0, 0, 0, 5, 1, 1)), Fishclock.SEIZED);
    }

    private static int state(Fishclock x, int box) {
        return x.told(box, 0);
    }

    private static void aid() {
        Check.promise(3, "aid");
        Fishclock x = new Fishclock();
        Check.due("aid(0, 7, false)", x.aid(0, 7, false), 0);
        Check.due("aid(0, 100000, false)", x.aid(0, 100000, false), 7);
        Check.due("aid(7, 5, true)", x.aid(7, 5, true), 0);
        Check.refused("aid(-1, 5, true)", Check.INDEX, () -> x.aid(-1, 5, true));
        Check.refused("aid(8, 5, true)", Check.INDEX, () -> x.aid(8, 5, true));
        Check.refused("aid(8, -1, true)", Check.INDEX, () -> x.aid(8, -1, true));
        Check.refused("aid(0, -1, true)", Check.ARGUMENT, () -> x.aid(0, -1, true));
        Check.refused("aid(0, 100001, true)", Check.ARGUMENT, () -> x.aid(0, 100001, true));
        Check.due("ship(0, 1)", x.ship(0, 1), 100000);
        Check.due("ship(7, 1)", x.ship(7, 1), 5);
        x.land(0, 0, 0, 9, 30, 30);
        x.land(7, 0, 0, 9, 30, 30);
        x.draw(0);
        x.open();
        Check.due("the day boat is drawn first, though a refused call told of another", x.lot(0, 0), 7);
        Check.due("end()", x.end(), 2);
        Check.due("aid for all kilos", x.told(0, 0), Fishclock.MEAL);
        Check.due("aid for too few", x.told(1, 0), Fishclock.CARRIED);
        Check.due("aid(0, 0, false) tells what was left", x.aid(0, 0, false), 99970);
        Check.due("20 cents a kilo", x.ship(0, 0), 600);
        Check.due("nothing for a box that is carried", x.ship(7, 0), 0);
        x.aid(7, 30, false);
        x.open();
        x.end();
        Check.due("aid for just as many", x.told(1, 0), Fishclock.MEAL);
        Check.due("none is left", x.ship(7, 1), 0);
    }

    private static void kind() {
        Check.promise(4, "kind");
        Fishclock x = new Fishclock();
        Check.refusedOrder("kind(-1, 5, 5, 0)", Check.INDEX, () -> x.kind(-1, 5, 5, 0));
        Check.refusedOrder("kind(4, 5, 5, 0)", Check.INDEX, () -> x.kind(4, 5, 5, 0));
        Check.refusedOrder("kind(0, 5, 5, -1)", Check.INDEX, () -> x.kind(0, 5, 5, -1));
        Check.refusedOrder("kind(0, 5, 5, 3)", Check.INDEX, () -> x.kind(0, 5, 5, 3));
        Check.refusedOrder("kind(0, 0, 5, 3)", Check.INDEX, () -> x.kind(0, 0, 5, 3));
        Check.refusedOrder("kind(4, 0, 5, 0)", Check.INDEX, () -> x.kind(4, 0, 5, 0));
        Check.refusedOrder("kind(0, 0, 5, 2)", Check.ARGUMENT, () -> x.kind(0, 0, 5, 2));
        Check.refusedOrder("kind(0, 10001, 5, 2)", Check.ARGUMENT, () -> x.kind(0, 10001, 5, 2));
        Check.refusedOrder("kind(0, 5, 0, 2)", Check.ARGUMENT, () -> x.kind(0, 5, 0, 2));
        Check.refusedOrder("kind(0, 5, 10001, 2)", Check.ARGUMENT, () -> x.kind(0, 5, 10001, 2));
        for (int kind = 0; kind < 4; kind++) {
            x.land(0, kind, 0, 5, 10, 10);
        }
        x.open();
        for (int kind = 0; kind < 4; kind++) {
            Check.due("the hall of a kind at first", x.lot(kind, 4), kind % 3);
        }
        for (int hall = 0; hall < 3; hall++) {
            Check.due("the start price at first", x.hall(hall, 2), 1000);
        }
        x.pass(90);
        Check.due("the minimum at first", x.hall(1, 2), 100);
        x.step(1, 1);
        x.pass(1);
        Check.due("below the minimum", x.hall(1, 0), Fishclock.EMPTY);

        Fishclock y = new Fishclock();
        y.kind(3, 10000, 10000, 2);
        y.kind(0, 1, 1, 0);
        y.land(0, 3, 0, 5, 10, 10);
        y.land(0, 0, 0, 5, 10, 10);
        y.open();
        Check.due("the greatest start", y.hall(2, 2), 10000);
        Check.due("the least start", y.hall(0, 2), 1);
    }

    private static void kindHoldsForLotsToCome() {
        Check.promise(4, "kind, from now on");
        Fishclock x = new Fishclock();
        x.land(0, 0, 0, 5, 10, 10);
        x.land(0, 0, 1, 5, 10, 10);
        x.open();
        x.kind(0, 2000, 150, 1);
        Check.due("the lot at the clock keeps its start", x.hall(0, 2), 1000);
        Check.due("the lots keep their hall", x.lot(1, 4), 0);
        x.pass(85);
        Check.due("down to the minimum that was told", x.hall(0, 2), 150);
        x.pass(1);
        Check.due("the next lot", x.hall(0, 1), 1);
        Check.due("it has the start that was told", x.hall(0, 2), 2000);
        x.kind(0, 3000, 1820, 1);
        x.pass(1);
        Check.due("a minimum of 2002 for the size 1", x.hall(0, 0), Fishclock.EMPTY);
        x.end();
        x.open();
        Check.due("the hall in the next sale", x.lot(0, 4), 1);
        Check.due("the start in the next sale", x.hall(1, 2), 3000);
        Check.due("the other hall has none", x.hall(0, 0), Fishclock.EMPTY);
    }

    private static void step() {
        Check.promise(5, "step");
        Fishclock x = new Fishclock();
        for (int hall = 0; hall < 3; hall++) {
            Check.due("the first step", x.step(hall, 10 + hall), 10);
        }
        for (int hall = 0; hall < 3; hall++) {
            Check.due("the step that was told", x.step(hall, 1), 10 + hall);
        }
        Check.due("step(2, 500)", x.step(2, 500), 1);
        Check.refused("step(-1, 5)", Check.INDEX, () -> x.step(-1, 5));
        Check.refused("step(3, 5)", Check.INDEX, () -> x.step(3, 5));
        Check.refused("step(3, 0)", Check.INDEX, () -> x.step(3, 0));
        Check.refused("step(2, 0)", Check.ARGUMENT, () -> x.step(2, 0));
        Check.refused("step(2, 501)", Check.ARGUMENT, () -> x.step(2, 501));
        x.land(0, 1, 0, 5, 10, 10);
        x.land(0, 2, 0, 5, 10, 10);
        x.open();
        x.pass(1);
        Check.due("a fall by 1", x.hall(1, 2), 999);
        Check.due("a fall by 500", x.hall(2, 2), 500);
        x.step(1, 99);
        x.pass(1);
        Check.due("a fall by the new step", x.hall(1, 2), 900);
    }

    private static void buyer() {
        Check.promise(6, "buyer");
        Fishclock x = new Fishclock();
        Check.due("buyer(0, 100000000, 9)", x.buyer(0, 100000000, 9), 0);
        Check.due("buyer(0, 0, 1)", x.buyer(0, 0, 1), 100000000);
        Check.due("buyer(7, 5, 1)", x.buyer(7, 5, 1), 0);
        Check.refused("buyer(-1, 5, 1)", Check.INDEX, () -> x.buyer(-1, 5, 1));
        Check.refused("buyer(8, 5, 1)", Check.INDEX, () -> x.buyer(8, 5, 1));
        Check.refused("buyer(8, -1, 0)", Check.INDEX, () -> x.buyer(8, -1, 0));
        Check.refused("buyer(7, -1, 1)", Check.ARGUMENT, () -> x.buyer(7, -1, 1));
        Check.refused("buyer(7, 100000001, 1)", Check.ARGUMENT, () -> x.buyer(7, 100000001, 1));
        Check.refused("buyer(7, 6, 0)", Check.ARGUMENT, () -> x.buyer(7, 6, 0));
        Check.refused("buyer(7, 6, 10)", Check.ARGUMENT, () -> x.buyer(7, 6, 10));
        Check.due("account(7, 0) behind the refused ones", x.account(7, 0), 5);
        x.land(0, 0, 0, 5, 1, 1);
        x.open();
        x.press(7, 0);
        x.buyer(7, 100000, 9);
        x.pass(1);
        Check.due("a press keeps the delay that it had", x.hall(0, 0), Fishclock.STANDING);
        x.pass(8);
        Check.due("it stands as long as the greatest delay", x.hall(0, 0), Fishclock.STANDING);
        x.pass(1);
        Check.due("it has won, by the new guarantee", x.hall(0, 3), 7);
    }

    private static void draw() {
        Check.promise(7, "draw");
        Fishclock x = new Fishclock();
        Check.due("draw(5)", x.draw(5), 1);
        Check.due("draw(-7)", x.draw(-7), 5);
        Check.due("draw(1)", x.draw(1), -7);
        Check.refused("open() without boxes", Check.STATE, () -> x.open());
        Check.due("a refused open draws nothing", x.draw(1), 1);
        x.land(3, 0, 0, 5, 1, 1);
        x.land(3, 1, 0, 5, 1, 1);
        x.open();
        Check.due("one boat is drawn once", x.draw(1), 1 * 1103515245 + 12345);
        Check.due("it is drawn though alone", x.lot(0, 0), 3);
    }

    private static void power() {
        Check.promise(8, "power");
        Fishclock x = new Fishclock();
        for (int hall = 0; hall < 3; hall++) {
            Check.due("power(" + hall + ", true)", x.power(hall, true), true);
        }
        Check.due("power(1, false)", x.power(1, false), true);
        Check.due("power(1, false) again", x.power(1, false), false);
        Check.due("power(2, true)", x.power(2, true), true);
        Check.refused("power(-1, true)", Check.INDEX, () -> x.power(-1, true));
        Check.refused("power(3, true)", Check.INDEX, () -> x.power(3, true));
        x.land(0, 1, 0, 5, 1, 1);
        x.land(0, 2, 0, 5, 1, 1);
        x.open();
        Check.due("a lot comes to a clock without power", x.hall(1, 0), Fishclock.FALLING);
        x.pass(5);
        Check.due("no fall without power", x.hall(1, 2), 1000);
        Check.due("a fall with power", x.hall(2, 2), 950);
        Check.refused("press(0, 1) without power", Check.STATE, () -> x.press(0, 1));
        Check.due("power(1, true)", x.power(1, true), false);
        x.pass(1);
        Check.due("a fall as the power is back", x.hall(1, 2), 990);
        Check.due("press(0, 1)", x.press(0, 1), 990);
    }

    private static void line() {
        Check.promise(9, "line");
        Fishclock x = new Fishclock();
        Check.due("line(0, true)", x.line(0, true), true);
        Check.due("line(7, false)", x.line(7, false), true);
        Check.due("line(7, false) again", x.line(7, false), false);
        Check.due("line(6, true)", x.line(6, true), true);
        Check.refused("line(-1, true)", Check.INDEX, () -> x.line(-1, true));
        Check.refused("line(8, true)", Check.INDEX, () -> x.line(8, true));
        x.buyer(7, 100000, 1);
        x.land(0, 0, 0, 5, 1, 1);
        x.open();
        Check.refused("press(7, 0) without a line", Check.STATE, () -> x.press(7, 0));
        Check.due("line(7, true)", x.line(7, true), false);
        Check.due("press(7, 0)", x.press(7, 0), 1000);
        x.line(7, false);
        x.pass(2);
        Check.due("a press that is made stays so", x.hall(0, 3), 7);
        Check.due("taking needs no line", x.take(7, 0, 1), 1000);
    }
}
