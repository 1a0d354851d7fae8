/** Promises 16 to 19 and 31: lorries and money. */
public final class MoneyTest {
    public static void main(String[] args) {
        lorry();
        lorriesLeave();
        loaded();
        pay();
        claim();
        claimInTime();
        claimBelowNothing();
        settle();
        settleMuch();
        Check.end();
    }

    /** A quay on which the buyer 0 bought boxes of these kilos, of the boat 0, for 1000 a kilo, in the tick 2. */
    private static Fishclock sold(int... kilosAndReal) {
        Fishclock x = new Fishclock();
        x.buyer(0, 100000000, 1);
        for (int i = 0; i < kilosAndReal.length; i += 2) {
            x.land(0, 0, 0, 5, kilosAndReal[i], kilosAndReal[i + 1]);
        }
        x.open();
        x.press(0, 0);
        x.pass(2);
        x.take(0, 0, kilosAndReal.length / 2);
        return x;
    }

    private static void lorry() {
        Check.promise(16, "lorry");
        Fishclock x = new Fishclock();
        x.pass(10);
        Check.refused("lorry(-1, 11, 1)", Check.INDEX, () -> x.lorry(-1, 11, 1));
        Check.refused("lorry(8, 11, 1)", Check.INDEX, () -> x.lorry(8, 11, 1));
        Check.refused("lorry(8, 10, 0)", Check.INDEX, () -> x.lorry(8, 10, 0));
        Check.refused("lorry(0, 10, 1)", Check.ARGUMENT, () -> x.lorry(0, 10, 1));
        Check.refused("lorry(0, 100001, 1)", Check.ARGUMENT, () -> x.lorry(0, 100001, 1));
        Check.refused("lorry(0, 11, 0)", Check.ARGUMENT, () -> x.lorry(0, 11, 0));
        Check.refused("lorry(0, 11, 51)", Check.ARGUMENT, () -> x.lorry(0, 11, 51));
        Check.due("lorry(0, 11, 1)", x.lorry(0, 11, 1), 0);
        Check.due("lorry(7, 100000, 50)", x.lorry(7, 100000, 50), 1);
        x.pass(1);
        for (int lorry = 2; lorry < 20; lorry++) {
            Check.due("lorry", x.lorry(0, 20, 1), lorry);
        }
        Check.refused("a lorry too many", Check.STATE, () -> x.lorry(0, 20, 1));
        Check.refused("a lorry too many, too late", Check.ARGUMENT, () -> x.lorry(0, 11, 1));
        Check.refused("a lorry too many, of nobody", Check.INDEX, () -> x.lorry(8, 11, 1));
    }

    private static void lorriesLeave() {
        Check.promise(16, "lorry, leaving");
        Fishclock x = new Fishclock();
        x.buyer(0, 100000000, 1);
        x.buyer(1, 100000000, 1);
        for (int box = 0; box < 8; box++) {
            x.land(0, 0, 0, 5, 10, 10);
        }
        x.open();
        x.press(0, 0);
        x.pass(2);
        x.take(0, 0, 3); // 0, 1, 2
        x.press(1, 0);
        x.pass(2);
        x.take(1, 0, 2); // 3, 4
        x.lorry(0, 6, 2);
        x.lorry(1, 5, 50);
        x.lorry(0, 6, 2);
        x.lorry(0, 7, 1);
        x.press(0, 0);
        x.pass(1);
        Check.due("the lorry 1 is gone in 5", x.loaded(1), 2);
        Check.due("the lorry 0 is not", x.loaded(0), Fishclock.NONE);
        Check.due("told(3, 0)", x.told(3, 0), Fishclock.GONE);
        Check.due("told(4, 0)", x.told(4, 0), Fishclock.GONE);
        Check.due("told(0, 0)", x.told(0, 0), Fishclock.SOLD);
        Check.due("told(5, 0)", x.told(5, 0), Fishclock.OFFERED);
        x.pass(1);
        Check.due("the lorry 0 takes 2", x.loaded(0), 2);
        Check.due("the lorry 2 takes what is left", x.loaded(2), 1);
        Check.due("told(2, 0)", x.told(2, 0), Fishclock.GONE);
        x.pass(1);
        Check.due("the lorry 3 takes none", x.loaded(3), 0);
        Check.due("what is gone is bought yet", x.account(0, 2), 3);
        Check.due("its buyer is told", x.told(0, 2), 0);
        Check.due("kilos(1)", x.kilos(1), 50);

        Fishclock y = sold(10, 10, 20, 20);
        y.end();
        y.lorry(0, 3, 1);
        y.power(0, false);
        y.pass(1);
        Check.due("without a sale, and by rising numbers", y.told(0, 0), Fishclock.GONE);
        Check.due("at most so many", y.told(1, 0), Fishclock.SOLD);

        Fishclock z = new Fishclock();
        z.buyer(0, 100000000, 1);
        z.land(0, 2, 0, 5, 10, 10);
        z.open();
        z.lorry(0, 5, 1);
        z.press(0, 2);
        z.pass(5);
        Check.due("behind all halls: the box that was sold in this tick", z.loaded(0), 1);
    }

    private static void loaded() {
        Check.promise(31, "loaded");
        Fishclock x = new Fishclock();
        Check.refused("loaded(-1)", Check.INDEX, () -> x.loaded(-1));
        Check.refused("loaded(0)", Check.INDEX, () -> x.loaded(0));
        x.lorry(0, 1, 1);
        Check.refused("loaded(1)", Check.INDEX, () -> x.loaded(1));
        Check.due("loaded(0)", x.loaded(0), Fishclock.NONE);
        x.pass(1);
        Check.due("loaded(0), left", x.loaded(0), 0);
        Fishclock y = sold(1, 1, 2, 2, 3, 3);
        y.lorry(0, 4, 2);
        y.pass(1);
        Check.due("ahead of its tick", y.loaded(0), Fishclock.NONE);
        y.pass(5);
        Check.due("behind its tick", y.loaded(0), 2);
    }

    private static void pay() {
        Check.promise(17, "pay");
        Fishclock x = sold(10, 10);
        Check.refused("pay(-1, 1)", Check.INDEX, () -> x.pay(-1, 1));
        Check.refused("pay(8, 1)", Check.INDEX, () -> x.pay(8, 1));
        Check.refused("pay(8, 0)", Check.INDEX, () -> x.pay(8, 0));
        Check.refused("pay(0, 0)", Check.ARGUMENT, () -> x.pay(0, 0));
        Check.refused("pay(0, 100000001)", Check.ARGUMENT, () -> x.pay(0, 100000001));
        Check.due("pay(1, 5)", x.pay(1, 5), 0);
        Check.due("pay(0, 1)", x.pay(0, 1), 1);
        Check.due("account(0, 1)", x.account(0, 1), 9999);
        Check.due("pay(0, 100000000)", x.pay(0, 100000000), 9999);
        Check.due("account(0, 1)", x.account(0, 1), 0);
        Check.due("pay(0, 5)", x.pay(0, 5), 0);
        Check.due("the account of the boat stays", x.ship(0, 0), 10000);

        Fishclock y = sold(10, 9);
        y.pay(0, 10000);
        y.claim(0, 0);
        Check.due("account(0, 1) below 0", y.account(0, 1), -1000);
        Check.due("pay(0, 5), nothing is owed", y.pay(0, 5), 0);
        Check.due("account(0, 1) stays", y.account(0, 1), -1000);
    }

    private static void claim() {
        Check.promise(18, "claim");
        Fishclock x = sold(100, 97, 100, 96, 10, 10, 10, 20, 1, 1);
        x.land(0, 1, 0, 5, 50, 1);
        Check.refused("claim(-1, 0)", Check.INDEX, () -> x.claim(-1, 0));
        Check.refused("claim(8, 0)", Check.INDEX, () -> x.claim(8, 0));
        Check.refused("claim(0, -1)", Check.INDEX, () -> x.claim(0, -1));
        Check.refused("claim(0, 6)", Check.INDEX, () -> x.claim(0, 6));
        Check.refused("claim(1, 1), not bought by it", Check.STATE, () -> x.claim(1, 1));
        Check.refused("claim(0, 5), not sold", Check.STATE, () -> x.claim(0, 5));
        Check.due("claim(0, 0): 3 hundredths are not enough", x.claim(0, 0), 0);
        Check.refused("claim(0, 0) again", Check.STATE, () -> x.claim(0, 0));
        int owed = x.account(0, 1);
        int account = x.ship(0, 0);
        Check.due("claim(0, 1)", x.claim(0, 1), 4000);
        Check.due("account(0, 1)", x.account(0, 1), owed - 4000);
        Check.due("ship(0, 0)", x.ship(0, 0), account - 4000);
        Check.refused("claim(0, 1) again", Check.STATE, () -> x.claim(0, 1));
        Check.due("claim(0, 2): nothing lacks", x.claim(0, 2), 0);
        Check.due("claim(0, 3): more than weighed", x.claim(0, 3), 0);
        Check.due("account(0, 1) yet", x.account(0, 1), owed - 4000);
        Fishclock y = sold(33, 32, 34, 33);
        Check.due("100 is above 99", y.claim(0, 0), 1000);
        Check.due("100 is not above 102", y.claim(0, 1), 0);
    }

    private static void claimInTime() {
        Check.promise(18, "claim, in time");
        Fishclock x = sold(10, 5, 10, 4);
        x.lorry(0, 3, 50);
        x.pass(240);
        Check.due("now()", x.now(), 242);
        Check.due("240 ticks behind, though gone", x.claim(0, 0), 5000);
        x.pass(1);
        Check.refused("241 ticks behind", Check.STATE, () -> x.claim(0, 1));
        Check.refused("241 ticks behind, of nobody", Check.INDEX, () -> x.claim(8, 1));
    }

    private static void claimBelowNothing() {
        Check.promise(18, "claim, below 0");
        Fishclock x = sold(100, 1);
        x.pay(0, 100000000);
        x.settle(0, 0, 0);
        Check.due("claim(0, 0)", x.claim(0, 0), 99000);
        Check.due("account(0, 1)", x.account(0, 1), -99000);
        Check.due("ship(0, 0)", x.ship(0, 0), -99000);
        Check.due("average(0, 0): claims do not matter", x.average(0, 0), 1000);
        x.buyer(0, 1000, 1);
        x.land(0, 1, 0, 5, 100, 100);
        x.end();
        x.open();
        x.press(0, 1);
        x.pass(2);
        Check.due("more is left than the guarantee", x.take(0, 1, 1), 100000);
        Check.due("account(0, 1) then", x.account(0, 1), 1000);
    }

    private static void settle() {
        Check.promise(19, "settle");
        Fishclock x = sold(29, 29);
        Check.refused("settle(-1, 0, 0)", Check.INDEX, () -> x.settle(-1, 0, 0));
        Check.refused("settle(8, 0, 0)", Check.INDEX, () -> x.settle(8, 0, 0));
        Check.refused("settle(8, -1, 0)", Check.INDEX, () -> x.settle(8, -1, 0));
        Check.refused("settle(0, -1, 0)", Check.ARGUMENT, () -> x.settle(0, -1, 0));
        Check.refused("settle(0, 10000001, 0)", Check.ARGUMENT, () -> x.settle(0, 10000001, 0));
        Check.refused("settle(0, 0, -1)", Check.ARGUMENT, () -> x.settle(0, 0, -1));
        Check.refused("settle(0, 0, 101)", Check.ARGUMENT, () -> x.settle(0, 0, 101));
        Check.due("ship(0, 0)", x.ship(0, 0), 29000);
        Check.due("settle(0, 131, 33): 27999 of 29000", x.settle(0, 131, 33), 9239);
        Check.due("ship(0, 0)", x.ship(0, 0), 0);
        Check.due("settle(0, 0, 100)", x.settle(0, 0, 100), 0);
        Check.due("settle(0, 10000000, 100)", x.settle(0, 10000000, 100), 0);

        Fishclock y = sold(1, 1);
        y.aid(1, 100, false);
        y.land(1, 0, 0, 5, 5, 5);
        y.land(2, 0, 0, 5, 1, 1);
        y.end();
        y.open();
        y.end();
        Check.due("ship(1, 0)", y.ship(1, 0), 100);
        Check.due("dues are rounded down: 3", y.settle(1, 0, 100), 97);
        Check.due("settle(0, 0, 100)", y.settle(0, 0, 100), 970);
        Check.due("all of it in costs", y.settle(2, 1, 100), 0);

        Fishclock z = sold(1, 1);
        Check.due("costs above it", z.settle(0, 971, 50), 0);
        Check.due("ship(0, 0), though below 0", z.ship(0, 0), 0);
        Fishclock w = sold(1, 1);
        Check.due("1 is left", w.settle(0, 969, 100), 1);
        Fishclock v = sold(1, 1);
        Check.due("99 hundredths of 1", v.settle(0, 969, 99), 0);

        Fishclock u = sold(100, 50);
        u.settle(0, 0, 0);
        u.claim(0, 0);
        Check.due("an account below 0", u.ship(0, 0), -50000);
        Check.due("no dues, nothing for the crew", u.settle(0, 0, 100), 0);
        Check.due("ship(0, 0) is 0 then", u.ship(0, 0), 0);
    }

    private static void settleMuch() {
        Check.promise(19, "settle, much money");
        Fishclock x = new Fishclock();
        x.quota(0, 0, 100000);
        x.buyer(0, 100000000, 1);
        x.kind(0, 10000, 1, 0);
        for (int box = 0; box < 150; box++) {
            x.land(0, 0, 0, 5, 100, 100);
        }
        x.open();
        x.press(0, 0);
        x.pass(2);
        Check.due("100 boxes", x.take(0, 0, 100), 100000000);
        x.pay(0, 100000000);
        x.press(0, 0);
        x.pass(2);
        Check.due("50 boxes", x.take(0, 0, 50), 50000000);
        Check.due("ship(0, 0)", x.ship(0, 0), 150000000);
        Check.due("average(0, 0)", x.average(0, 0), 10000);
        Check.due("settle(0, 0, 100)", x.settle(0, 0, 100), 145500000);
    }
}
