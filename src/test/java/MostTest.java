import java.util.ArrayList;
import java.util.List;

/** As many as there may be: 150 boxes, 150 lots, 20 lorries, the tick 100000, 512 calls. */
public final class MostTest {
    public static void main(String[] args) {
        allBoxesInOneLot();
        allBoxesInTheirOwnLots();
        allBoxesSold();
        allBoxesTwice();
        theLastBoxInASale();
        allBoxesWithdrawn();
        muchMoney();
        allLorries();
        theLastTick();
        theLastTickInASale();
        theLastTickAtOnce();
        allCalls();
        Check.end();
    }

    private static void allBoxesInOneLot() {
        Run run = new Run("150 boxes in one lot").rows("quota 5 2 100000", "buyer 3 100000000 1");
        run.times(150, "land 5 2 1 6 100 100 = #").rows("land 5 2 1 6 100 100 = State", "kilos 0 = 15000",
            "kilos 5 = 15000", "ship 5 2 = 15000", "open = 1", "lot 0 5 = 150", "hall 2 4 = 1", "told 149 4 = 0",
            "told 150 4 = Index", "press 3 2", "pass 2", "take 3 2 151 = State", "take 3 2 150 = 15000000",
            "account 3 2 = 150", "ship 5 0 = 15000000", "kilos 1 = 15000", "kilosAnew 1 = 15000", "hall 2 0 = 0",
            "average 2 0 = 1000", "claim 3 149 = 0", "claim 3 150 = Index", "end = 0");
    }

    private static void allBoxesInTheirOwnLots() {
        List<String> lands = new ArrayList<>();
        for (int box = 0; box < 150; box++) {
            lands.add("land 0 " + box / 27 % 4 + " " + box / 9 % 3 + " " + (9 - box % 9) + " 1 1");
        }
        for (int box = 108; box < 150; box++) {
            lands.set(box, lands.get(box).replace("land 0", "land 7"));
        }
        Run run = new Run("150 lots").rows("aid 7 0 1");
        run.rows(lands.toArray(new String[0])).rows("open = 150", "hall 0 4 = 81", "hall 1 4 = 42", "hall 2 4 = 27");
        for (int box = 0; box < 150; box++) {
            run.rows("told " + box + " 4 = " + (box < 108 ? box + 42 : box - 108));
        }
        run.rows("lot 149 5 = 1", "lot 149 1 = 3", "lot 149 2 = 2", "lot 149 3 = 1", "lot 150 5 = Index", "end = 150",
            "lot 0 5 = Index", "kilos 3 = 16", "kilos 5 = 134", "open = 134", "end = 134", "kilos 3 = 150",
            "open = State", "day = 2");
    }

    private static void allBoxesSold() {
        Run run = new Run("all lots sold, one behind the other").rows("buyer 0 100000000 1", "quota 0 0 100000");
        for (int box = 0; box < 54; box++) {
            run.rows("land 0 0 " + box / 9 % 3 + " " + (9 - box % 9) + " 10 10");
        }
        run.rows("open = 27");
        for (int lot = 0; lot < 27; lot++) {
            run.rows("hall 0 1 = " + lot, "hall 0 4 = " + (27 - lot), "press 0 0 = 1000", "pass 2",
                "take 0 0 2 = 20000");
        }
        run.rows("hall 0 0 = 0", "hall 0 1 = -1", "account 0 1 = 540000", "account 0 2 = 54", "end = 0",
            "open = State");
    }

    private static void allBoxesTwice() {
        Run run = new Run("150 boxes of two boats, in two sales").rows("quota 5 0 100000");
        run.times(75, "land 5 0 0 2 10 1").times(75, "land 3 0 0 2 10 1").rows("open = 2", "draw 1 = -1770082073",
            "lot 0 0 = 3", "lot 0 5 = 75", "lot 1 0 = 5", "lot 1 5 = 75", "told 149 4 = 0", "told 0 4 = 1", "end = 150",
            "told 149 0 = 6", "told 149 1 = 1", "open = 2", "draw 1 = -1770082073", "lot 1 5 = 75", "told 74 4 = 1",
            "end = 150").times(150, "told # 0 = 7").rows("kilos 3 = 1500", "open = State");
    }

    private static void theLastBoxInASale() {
        new Run("the 150th box lands while a sale is open").times(149, "land 3 1 0 5 1 1 = #").rows("open = 1",
            "land 3 1 0 5 1 1 = 149", "land 3 1 0 5 1 1 = State", "told 149 0 = 0", "told 149 4 = -1",
            "told 150 0 = Index", "end = 149", "land 3 1 0 5 1 1 = State", "open = 2", "told 149 4 = 0", "lot 0 5 = 1",
            "lot 1 5 = 149");
    }

    private static void allBoxesWithdrawn() {
        Run run = new Run("150 boxes, MEAL all of them").rows("quota 2 3 100000", "aid 2 15000 0");
        run.times(150, "land 2 3 0 5 100 1").rows("open", "pass 90", "kilos 5 = 15000", "pass 1", "kilos 2 = 15000",
            "kilosAnew 2 = 15000", "ship 2 0 = 300000", "ship 2 1 = 0", "settle 2 0 100 = 291000");
    }

    private static void muchMoney() {
        Run run = new Run("the most money").rows("quota 0 0 100000", "buyer 0 100000000 1", "kind 0 10000 10000 0");
        run.times(150, "land 0 0 0 5 100 1").rows("open", "press 0 0 = 10000", "pass 2", "take 0 0 101 = State",
            "take 0 0 100 = 100000000", "account 0 1 = 100000000", "press 0 0", "pass 2", "hall 0 0 = 1",
            "pay 0 100000000 = 100000000", "press 0 0", "pass 2", "take 0 0 50 = 50000000", "ship 0 0 = 150000000",
            "account 0 1 = 50000000", "average 0 0 = 10000", "pay 0 100000000 = 50000000",
            "settle 0 0 100 = 145500000", "ship 0 0 = 0");
        run.times(150, "claim 0 # = 990000").rows("account 0 1 = -148500000", "ship 0 0 = -148500000",
            "average 0 0 = 10000", "settle 0 10000000 100 = 0", "ship 0 0 = 0");
        Run costs = new Run("the most money, and costs").rows("quota 0 0 100000", "buyer 0 100000000 1",
            "kind 0 10000 10000 0");
        costs.times(100, "land 0 0 0 5 100 1").rows("open", "press 0 0 = 10000", "pass 2", "take 0 0 100 = 100000000",
            "settle 0 10000000 99 = 86130000", "ship 0 0 = 0");
    }

    private static void allLorries() {
        Run run = new Run("20 lorries").rows("buyer 6 1000000 1").times(25, "land 1 0 0 5 10 10").rows("open",
            "press 6 0", "pass 2", "take 6 0 25 = 250000").times(20, "lorry 6 3 1 = #").rows("lorry 6 3 1 = State",
            "loaded 19 = -1", "loaded 20 = Index", "pass 1").times(20, "loaded # = 1").rows("told 19 0 = 4",
            "told 20 0 = 3", "lorry 6 4 1 = State");
        run.rows("pass 10", "lorry 6 100 1 = State");
        new Run("lorries of many ticks").rows("buyer 6 1000000 1").times(25, "land 1 0 0 5 10 10").rows("open",
            "press 6 0", "pass 2", "take 6 0 25 = 250000").times(10, "lorry 6 1#0 1 = #").rows("pass 98",
            "loaded 0 = 1", "loaded 1 = -1", "pass 10", "loaded 1 = 1", "loaded 2 = -1", "pass 80", "loaded 9 = 1",
            "told 9 0 = 4", "told 10 0 = 3");
    }

    private static void theLastTick() {
        Run run = new Run("now is at most 100000").rows("lorry 3 100000 50 = 0").times(199, "pass 500").rows(
            "now = 99500", "pass 500 = 100000", "now = 100000", "loaded 0 = 0", "pass 1 = State", "pass 500 = State",
            "lorry 0 100000 1 = Argument", "lorry 0 100001 1 = Argument", "land 0 0 0 5 5 5 = 0", "open = 1",
            "press 0 0 = 1000", "pass 1 = State", "hall 0 0 = 1", "end = 1", "day = 1", "now = 100000");
        run.rows("pass 0 = Argument", "pass 501 = Argument");
        new Run("pass: not beyond by any").times(199, "pass 500").rows("pass 1 = 99501", "pass 500 = State",
            "pass 499 = 100000", "pass 1 = State");
    }

    private static void theLastTickInASale() {
        new Run("sold by the clock, fetched and claimed for in the last tick").times(199, "pass 500").rows("pass 495",
            "buyer 0 1000000 1", "land 0 0 0 5 10 5", "land 0 0 0 5 10 5", "open", "press 0 0", "lorry 0 100000 1",
            "pass 4", "hall 0 0 = 3", "pass 1 = 100000", "told 0 0 = 4", "loaded 0 = 1", "hall 0 0 = 1",
            "hall 0 2 = 1000", "claim 0 0 = 5000", "pass 1 = State", "press 0 0 = 1000", "end = 1", "told 1 0 = 6");
        new Run("a press that would come behind the last tick").times(199, "pass 500").rows("pass 499",
            "land 0 0 0 5 10 5", "open", "buyer 0 100000 9", "press 0 0", "pass 1 = 100000", "hall 0 2 = 990",
            "hall 0 0 = 1", "pass 1 = State", "end = 1");
        new Run("240 ticks behind, in the last tick").times(199, "pass 500").rows("pass 258", "buyer 0 1000000 1",
            "land 0 0 0 5 10 5", "land 0 0 0 5 10 5", "open", "press 0 0", "pass 2", "take 0 0 1", "now = 99760",
            "pass 240 = 100000", "claim 0 0 = 5000");
    }

    private static void theLastTickAtOnce() {
        new Run("pass: 500 at once").rows("land 0 0 0 5 10 10", "land 0 0 1 5 10 10", "open", "pass 500 = 500",
            "hall 0 0 = 0", "kilos 5 = 20", "told 0 0 = 6", "told 1 0 = 6", "pass 501 = Argument", "now = 500");
    }

    /** The 512th call of an object is promised as the first one is. */
    private static void allCalls() {
        Run run = new Run("512 calls").rows("buyer 0 100000000 1").times(150, "land 0 0 0 5 1 1 = #").rows("open = 1");
        for (int box = 0; box < 50; box++) {
            run.rows("press 0 0 = 1000", "pass 1", "pass 1", "take 0 0 1 = 1000", "told " + box + " 0 = 3",
                "claim 0 " + box + " = 0");
        }
        run.rows("account 0 2 = 50", "lot 0 5 = 100", "kilos 1 = 50", "end = 100", "open = 1", "lot 0 5 = 100",
            "lot 0 3 = 4");
        while (run.calls() < Run.MOST_CALLS - 3) {
            run.rows("pass 1");
        }
        run.rows("hall 0 2 = 500", "take 0 0 1 = State", "now = 150");
    }
}
