/** The edges that "Money" names, and those of promises 16 to 19 and 23 to 31, sentence by sentence. */
public final class MoneyEdgeTest {
    public static void main(String[] args) {
        refusedWithMoney();
        costs();
        aidForMeal();
        carriedOrRotten();
        claimOfWhatItLacks();
        claimInTime();
        claimOnce();
        claimOfSeveralBoats();
        claimBelowNothing();
        payAtMost();
        settleDues();
        settleCostsAndPart();
        settleBelowNothing();
        lorryInItsTick();
        lorryAtMost();
        lorriesOfOneTick();
        averages();
        toldOfABox();
        lotsLeft();
        lotsStay();
        kilosOfAllSorts();
        Check.end();
    }

    /** On a quay on which the buyer 0 owes 10000 for a box that lacks much, and the account of the boat 0 is 10000. */
    private static void refusedWithMoney() {
        for (String call : new String[] {"settle 0 -1 0 = Argument", "settle 0 10000001 0 = Argument",
            "settle 0 0 -1 = Argument", "settle 0 0 101 = Argument", "settle 0 -2147483648 50 = Argument",
            "settle 0 2147483647 50 = Argument", "settle 0 5 -2147483648 = Argument",
            "settle 0 5 2147483647 = Argument", "settle 8 0 0 = Index", "settle -1 -1 -1 = Index",
            "pay 0 0 = Argument", "pay 0 100000001 = Argument", "pay 0 -1 = Argument", "pay 0 -2147483648 = Argument",
            "pay 0 2147483647 = Argument", "pay 8 5 = Index", "pay -1 0 = Index", "claim 1 0 = State",
            "claim 0 1 = Index", "claim 8 0 = Index", "claim 0 -1 = Index", "lorry 0 2 1 = Argument",
            "lorry 0 100001 1 = Argument", "lorry 0 3 0 = Argument", "lorry 0 3 51 = Argument", "lorry 8 3 1 = Index",
            "lorry 0 -2147483648 1 = Argument", "lorry 0 2147483647 1 = Argument", "lorry 0 3 -2147483648 = Argument",
            "lorry 0 3 2147483647 = Argument"}) {
            sold("refused: money and boxes stay", 1000, "10 5").rows(call, "ship 0 0 = 10000", "account 0 1 = 10000",
                "loaded 0 = Index", "told 0 0 = 3", "claim 0 0 = 5000", "pay 0 5000 = 5000", "settle 0 0 100 = 4850");
        }
    }

    /** The buyer 0 bought boxes of the boat 0 for this price in the tick 2; each text is a weight and the real one. */
    private static Run sold(String title, int price, String... weights) {
        Run run = new Run(title).rows("buyer 0 100000000 1", "kind 0 " + price + " 1 0");
        for (String weight : weights) {
            run.rows("land 0 0 0 5 " + weight);
        }
        return run.rows("open = 1", "press 0 0 = " + price, "pass 2 = 2", "take 0 0 " + weights.length);
    }

    private static void costs() {
        sold("its kilos times the price, the least", 1, "1 1").rows("account 0 1 = 1", "ship 0 0 = 1", "told 0 3 = 1",
            "account 0 2 = 1");
        sold("its kilos times the price, the greatest", 10000, "100 1").rows("account 0 1 = 1000000",
            "ship 0 0 = 1000000", "told 0 3 = 10000");
        sold("several boxes", 999, "1 1", "10 9", "100 100").rows("account 0 1 = 110889", "ship 0 0 = 110889",
            "account 0 2 = 3", "account 1 1 = 0", "account 1 2 = 0", "ship 1 0 = 0");
    }

    private static void aidForMeal() {
        new Run("aid for as many kilos: just as many").rows("aid 2 10 0", "land 2 0 0 5 10 1", "open", "end = 1",
            "told 0 0 = 5", "told 0 1 = 5", "ship 2 1 = 0", "ship 2 0 = 200", "kilos 2 = 10", "kilos 5 = 0");
        new Run("aid for as many kilos: 1 less").rows("aid 2 9 0", "land 2 0 0 5 10 1", "open", "end = 1",
            "told 0 0 = 6", "told 0 1 = 4", "ship 2 1 = 9", "ship 2 0 = 0", "kilos 2 = 0", "kilos 5 = 10");
        new Run("aid for as many kilos: one box of 1").rows("aid 2 1 0", "land 2 0 0 1 1 100", "open", "end",
            "told 0 0 = 5", "ship 2 1 = 0", "ship 2 0 = 20");
        new Run("aid: the most").rows("aid 7 100000 1 = 0", "land 7 0 0 5 100 1", "open", "pass 91", "told 0 0 = 5",
            "ship 7 1 = 99900", "ship 7 0 = 2000", "aid 7 0 0 = 99900", "ship 7 1 = 0");
        new Run("the aid is less by these, the next box is lighter").rows("aid 2 15 0", "land 2 0 0 5 10 10",
            "land 2 0 0 5 6 6", "land 2 0 0 5 5 5", "open", "end = 3", "told 0 0 = 5", "told 1 0 = 6", "told 2 0 = 5",
            "ship 2 1 = 0", "ship 2 0 = 300");
        new Run("the aid of another boat").rows("aid 3 100 0", "land 2 0 0 5 10 10", "open", "end", "told 0 0 = 6",
            "ship 3 1 = 100");
        new Run("aid that is told while the lot is at the clock").rows("land 2 0 0 5 10 10", "open", "pass 90",
            "aid 2 10 1 = 0", "pass 1", "told 0 0 = 5", "ship 2 1 = 0", "ship 2 0 = 200");
        new Run("aid for one that was CARRIED before").rows("land 2 0 0 5 10 10", "open", "end", "told 0 0 = 6",
            "aid 2 10 0", "open", "end", "told 0 0 = 5", "told 0 1 = 4");
    }

    private static void carriedOrRotten() {
        new Run("its freshness is above 1: 2").rows("land 0 0 0 2 5 5", "open", "end", "told 0 0 = 6", "told 0 1 = 1",
            "open", "end", "told 0 0 = 7", "told 0 1 = 1", "kilos 3 = 5", "open = State");
        new Run("its freshness is 1").rows("land 0 0 0 1 5 5", "open", "end", "told 0 0 = 7", "told 0 1 = 1",
            "kilos 3 = 5", "kilos 5 = 0");
        new Run("if it was not CARRIED before, though fresh yet").rows("land 0 0 0 9 5 5", "open", "pass 91",
            "told 0 0 = 6", "told 0 1 = 8", "end", "open", "lot 0 3 = 8", "pass 91", "told 0 0 = 7", "told 0 1 = 8");
    }

    private static void claimOfWhatItLacks() {
        String[][] due = {{"100 97", "0"}, {"100 96", "4000"}, {"100 100", "0"}, {"100 1", "99000"}, {"1 1", "0"},
            {"1 100", "0"}, {"2 1", "1000"}, {"33 32", "1000"}, {"34 33", "0"}, {"34 32", "2000"}, {"66 64", "2000"},
            {"67 65", "0"}, {"67 64", "3000"}, {"99 97", "0"}, {"99 96", "3000"}, {"50 51", "0"}, {"10 100", "0"}};
        for (String[] of : due) {
            int kilos = Integer.parseInt(of[0].split(" ")[0]);
            int cents = Integer.parseInt(of[1]);
            sold("what it lacks times 100 is above 3 times its kilos: " + of[0], 1000, of[0]).rows(
                "claim 0 0 = " + cents, "account 0 1 = " + (kilos * 1000 - cents),
                "ship 0 0 = " + (kilos * 1000 - cents), "claim 0 0 = State", "account 0 2 = 1");
        }
        sold("the price for which it was sold", 7, "100 1").rows("claim 0 0 = 693");
        sold("the price for which it was sold", 10000, "100 1").rows("claim 0 0 = 990000", "account 0 1 = 10000");
    }

    private static void claimInTime() {
        sold("up to 240 ticks behind that in which it was sold", 1000, "10 5").rows("pass 240", "claim 0 0 = 5000");
        sold("241 ticks behind", 1000, "10 5").rows("pass 241", "claim 0 0 = State", "pass 500", "claim 0 0 = State");
        sold("up to 240 ticks behind, though it is GONE and the sale is over", 1000, "10 5").rows("lorry 0 9 1", "end",
            "pass 240", "told 0 0 = 4", "claim 0 0 = 5000");
        sold("in the tick itself", 1000, "10 5").rows("claim 0 0 = 5000");
        new Run("240 ticks behind, sold by the clock in the tick 5").rows("buyer 0 100000000 1", "land 0 0 0 5 10 5",
            "land 0 0 0 5 10 5", "open", "press 0 0", "pass 5", "told 0 0 = 3", "pass 240", "claim 0 0 = 5000",
            "claim 0 1 = State");
    }

    private static void claimOnce() {
        sold("once", 1000, "10 5", "10 10").rows("claim 0 0 = 5000", "claim 0 0 = State", "claim 0 1 = 0",
            "claim 0 1 = State", "account 0 1 = 15000", "ship 0 0 = 15000");
        sold("for a box that it bought", 1000, "10 5").rows("land 0 0 0 5 10 5", "claim 1 0 = State",
            "claim 7 0 = State", "claim 0 1 = State", "claim 0 2 = Index", "claim 0 0 = 5000");
    }

    private static void claimOfSeveralBoats() {
        new Run("the account of the boat, and what the buyer owes").rows("buyer 3 100000 1", "buyer 6 100000 1",
            "aid 7 0 1", "land 5 0 0 5 10 5", "land 7 0 0 5 20 12", "open", "press 3 0", "pass 2", "take 3 0 1 = 20000",
            "press 6 0", "pass 2", "take 6 0 1 = 10000", "ship 7 0 = 20000", "ship 5 0 = 10000", "claim 3 1 = 8000",
            "ship 7 0 = 12000", "ship 5 0 = 10000", "ship 0 0 = 0", "account 3 1 = 12000", "account 6 1 = 10000",
            "claim 3 0 = State", "claim 6 0 = 5000", "ship 5 0 = 5000", "account 6 1 = 5000", "account 3 1 = 12000",
            "settle 5 0 100 = 4850", "ship 7 0 = 12000", "pay 6 1 = 1", "account 3 1 = 12000", "ship 7 0 = 12000");
    }

    private static void claimBelowNothing() {
        sold("perhaps below 0", 1000, "10 5").rows("pay 0 10000 = 10000", "claim 0 0 = 5000", "account 0 1 = -5000",
            "pay 0 1 = 0", "pay 0 100000000 = 0", "account 0 1 = -5000", "ship 0 0 = 5000");
        sold("just nothing", 1000, "10 5").rows("pay 0 5000 = 5000", "claim 0 0 = 5000", "account 0 1 = 0",
            "pay 0 5 = 0");
        sold("the account of the boat is less by as much, perhaps below 0", 1000, "10 5").rows("settle 0 0 0 = 0",
            "claim 0 0 = 5000", "ship 0 0 = -5000");
        sold("below 0 more is left than the guarantee", 1000, "10 5", "10 10").rows("pay 0 20000", "claim 0 0 = 5000",
            "buyer 0 4999 1", "end", "land 1 1 0 5 10 10", "kind 1 1000 100 1", "open", "press 0 1", "pass 2",
            "hall 1 0 = 1", "buyer 0 5000 1", "press 0 1", "pass 2", "hall 1 3 = 0", "take 0 1 1 = 10000",
            "account 0 1 = 5000");
    }

    private static void payAtMost() {
        sold("pay: at most so much", 1000, "10 10").rows("pay 0 1 = 1", "pay 0 9998 = 9998", "account 0 1 = 1",
            "pay 0 1 = 1", "account 0 1 = 0", "pay 0 1 = 0");
        sold("pay: what it owes, no more", 1000, "10 10").rows("pay 0 10001 = 10000", "pay 0 10000 = 0");
        sold("pay: just what it owes", 1000, "10 10").rows("pay 0 10000 = 10000", "account 0 1 = 0",
            "account 0 0 = 100000000", "ship 0 0 = 10000");
        sold("pay: the most", 1000, "10 10").rows("pay 0 100000000 = 10000");
        new Run("pay: nothing, if it owes nothing").rows("pay 0 1 = 0", "pay 7 100000000 = 0", "account 7 1 = 0");
    }

    private static void settleDues() {
        int[][] due = {{1, 0}, {33, 0}, {34, 1}, {66, 1}, {67, 2}, {99, 2}, {100, 3}, {133, 3}, {134, 4}, {10000, 300}};
        for (int[] of : due) {
            sold("3 hundredths of what its account has, rounded down: " + of[0], of[0], "1 1")
                .rows("ship 0 0 = " + of[0], "settle 0 0 100 = " + (of[0] - of[1]), "ship 0 0 = 0",
                "settle 0 0 100 = 0", "account 0 1 = " + of[0]);
        }
        new Run("an account of 0").rows("settle 7 0 100 = 0", "settle 7 10000000 100 = 0", "settle 7 0 0 = 0",
            "ship 7 0 = 0");
    }

    private static void settleCostsAndPart() {
        // of 10000 the dues are 300
        int[][] due = {{0, 100, 9700}, {0, 0, 0}, {0, 1, 97}, {0, 99, 9603}, {0, 50, 4850}, {9699, 100, 1},
            {9699, 99, 0}, {9699, 1, 0}, {9700, 100, 0}, {9701, 100, 0}, {10000000, 100, 0}, {10000000, 0, 0},
            {9601, 1, 0}, {9600, 1, 1}, {9501, 1, 1}, {9500, 1, 2}, {1, 33, 3200}, {3, 33, 3200}, {4, 33, 3199}};
        for (int[] of : due) {
            sold("its part of that, in hundredths, rounded down", 1000, "10 10").rows(
                "settle 0 " + of[0] + " " + of[1] + " = " + of[2], "ship 0 0 = 0");
        }
        sold("the costs are not above the net", 10000, "100 1").rows("settle 0 969999 100 = 1");
    }

    private static void settleBelowNothing() {
        sold("dues: 0 if that is below 0; nothing for the crew if the net is below 0", 1000, "100 1").rows(
            "settle 0 0 0 = 0", "claim 0 0 = 99000", "ship 0 0 = -99000", "settle 0 0 100 = 0", "ship 0 0 = 0");
        sold("an account below 0, and costs", 1000, "100 1").rows("settle 0 0 100 = 97000", "claim 0 0 = 99000",
            "settle 0 10000000 100 = 0", "ship 0 0 = 0");
        sold("an account of -1", 1, "33 32").rows("settle 0 0 0", "claim 0 0 = 1", "ship 0 0 = -1",
            "settle 0 0 100 = 0", "ship 0 0 = 0");
    }

    private static void lorryInItsTick() {
        sold("tick: now and 1 more to 100000", 1000, "1 1").rows("lorry 0 2 1 = Argument", "lorry 0 1 1 = Argument",
            "lorry 0 3 1 = 0", "lorry 0 100000 1 = 1", "lorry 0 100001 1 = Argument", "loaded 0 = -1", "told 0 0 = 3",
            "pass 1", "loaded 0 = 1", "told 0 0 = 4", "loaded 1 = -1", "loaded 2 = Index");
        sold("in its tick, not ahead of it and not behind", 1000, "1 1").rows("lorry 0 5 1", "pass 2", "loaded 0 = -1",
            "told 0 0 = 3", "pass 1", "loaded 0 = 1", "told 0 0 = 4", "pass 100", "loaded 0 = 1");
        new Run("a lorry that takes nothing has left").rows("lorry 0 1 50 = 0", "loaded 0 = -1", "pass 1",
            "loaded 0 = 0", "buyer 0 5000 1", "land 0 0 0 5 5 5", "open", "press 0 0", "pass 2", "take 0 0 1 = 5000",
            "pass 5", "told 0 0 = 3", "loaded 0 = 0");
        new Run("behind all halls: what is sold by the clock in this tick").rows("buyer 0 5000 1", "kind 0 1000 100 2",
            "land 0 0 0 5 5 5", "open", "lorry 0 4 1", "lorry 0 5 1", "press 0 2", "pass 4", "loaded 0 = 0", "pass 1",
            "loaded 1 = 1", "told 0 0 = 4");
        new Run("behind all halls, without power as well").rows("buyer 0 5000 1", "land 0 0 0 5 5 5", "open",
            "press 0 0", "pass 2", "take 0 0 1", "power 0 0", "power 1 0", "power 2 0", "lorry 0 3 1", "pass 1",
            "loaded 0 = 1");
    }

    private static void lorryAtMost() {
        sold("at most so many: less than there are", 1000, "1 1", "1 1", "1 1").rows("lorry 0 3 2", "pass 1",
            "loaded 0 = 2", "told 0 0 = 4", "told 1 0 = 4", "told 2 0 = 3");
        sold("at most so many: just as many", 1000, "1 1", "1 1", "1 1").rows("lorry 0 3 3", "pass 1", "loaded 0 = 3",
            "told 2 0 = 4", "kilos 1 = 3", "kilosAnew 1 = 3");
        sold("at most so many: more than there are", 1000, "1 1", "1 1", "1 1").rows("lorry 0 3 4", "pass 1",
            "loaded 0 = 3");
        sold("that are SOLD to that buyer", 1000, "1 1").rows("land 0 0 0 5 1 1", "lorry 1 3 50", "lorry 7 3 50",
            "pass 1", "loaded 0 = 0", "loaded 1 = 0", "told 0 0 = 3", "told 1 0 = 0");
        String[] weights = new String[51];
        java.util.Arrays.fill(weights, "1 1");
        sold("50 at most", 1000, weights).rows("lorry 0 3 51 = Argument", "lorry 0 3 50", "pass 1", "loaded 0 = 50",
            "told 49 0 = 4", "told 50 0 = 3", "account 0 2 = 51");
    }

    private static void lorriesOfOneTick() {
        sold("those of one tick leave by rising numbers", 1000, "1 1", "1 1", "1 1", "1 1").rows("lorry 0 4 1",
            "lorry 0 3 1", "lorry 0 4 1", "lorry 0 3 1", "lorry 0 4 1", "pass 1", "loaded 0 = -1", "loaded 1 = 1",
            "loaded 3 = 1", "told 1 0 = 4", "told 2 0 = 3", "pass 1", "loaded 0 = 1", "loaded 2 = 1", "loaded 4 = 0");
    }

    private static void averages() {
        sold("by all their kilos, rounded down", 1000, "10 1").rows("average 0 0 = 1000", "average 1 0 = -1",
            "average 3 0 = -1", "average 0 1 = Argument", "average 0 -1 = Argument", "claim 0 0 = 9000",
            "average 0 0 = 1000", "lorry 0 3 1", "pass 1", "average 0 0 = 1000", "end", "average 0 0 = 1000",
            "average 0 1 = -1", "average 0 2 = Argument");
        new Run("10999 by 11, 2 kinds, 2 days").rows("buyer 0 1000000 1", "step 0 1", "land 0 0 0 5 10 10",
            "land 0 0 0 5 1 1", "land 0 3 0 5 7 7", "open", "press 0 0", "pass 2", "take 0 0 1 = 10000", "pass 1",
            "press 0 0 = 999", "pass 2", "take 0 0 1 = 999", "average 0 0 = 999", "end", "open", "press 0 0", "pass 2",
            "kind 3 1 1 1", "take 0 0 1 = 7000", "average 3 1 = 1000", "average 3 0 = -1", "average 0 0 = 999",
            "average 0 1 = -1");
        new Run("the least price").rows("kind 2 1 1 2", "buyer 0 1 1", "land 0 2 0 5 1 1", "open", "press 0 2",
            "pass 2", "take 0 2 1 = 1", "average 2 0 = 1");
    }

    private static void toldOfABox() {
        new Run("told: 2 and 3 NONE if it was not sold, 4 NONE if it is in none").rows("land 0 0 0 5 1 1",
            "told 0 2 = -1", "told 0 3 = -1", "told 0 4 = -1", "told 0 -1 = Argument", "told 0 5 = Argument",
            "told 1 0 = Index", "open", "told 0 2 = -1", "told 0 3 = -1", "told 0 4 = 0", "pass 91", "told 0 2 = -1",
            "told 0 3 = -1", "told 0 4 = 0", "end", "told 0 4 = -1");
        sold("also if it was sold in it", 5, "1 1").rows("told 0 2 = 0", "told 0 3 = 5", "told 0 4 = 0", "lorry 0 3 1",
            "pass 1", "told 0 0 = 4", "told 0 2 = 0", "told 0 3 = 5", "told 0 4 = 0", "land 0 0 0 5 1 1", "end",
            "told 0 2 = 0", "told 0 3 = 5", "told 0 4 = -1", "open", "told 0 4 = -1", "told 1 4 = 0");
    }

    private static void lotsLeft() {
        new Run("how many lots are left in it, that at the clock included").rows("buyer 0 100000 1", "land 0 1 0 5 1 1",
            "land 0 1 1 5 1 1", "land 0 1 2 5 1 1", "open = 3", "hall 1 4 = 3", "pass 91", "hall 1 4 = 2",
            "hall 1 1 = 1", "press 0 1", "pass 2", "hall 1 4 = 2", "take 0 1 1", "hall 1 4 = 1", "hall 1 1 = 2",
            "press 0 1", "pass 4", "hall 1 4 = 1", "pass 1", "hall 1 4 = 0", "hall 1 1 = -1", "lot 2 5 = 0",
            "lot 3 5 = Index");
    }

    private static void lotsStay() {
        new Run("a lot tells of the sale as it opened").rows("buyer 0 100000 1", "land 0 0 1 5 1 1", "land 0 0 1 5 1 1",
            "land 0 0 2 5 1 1", "open = 2", "lot 0 5 = 2", "press 0 0", "pass 2", "take 0 0 1", "lot 0 5 = 1",
            "pass 200", "lot 0 0 = 0", "lot 0 1 = 0", "lot 0 2 = 1", "lot 0 3 = 5", "lot 0 4 = 0", "lot 0 5 = 0",
            "lot 1 2 = 2", "lot 1 3 = 5", "lot 1 5 = 0", "told 1 0 = 6", "told 1 1 = 4", "lot 2 0 = Index",
            "lot -1 0 = Index", "lot 0 6 = Argument", "lot 0 -1 = Argument");
    }

    private static void kilosOfAllSorts() {
        new Run("kilos and kilosAnew").rows("buyer 0 1000000 1", "quota 7 0 0", "land 7 0 0 5 1 90",
            "land 0 0 0 5 2 90", "kilos 0 = 3", "kilos 4 = 1", "kilos 5 = 2", "kilosAnew 0 = 3", "kilosAnew 4 = 1",
            "kilosAnew 5 = 2", "open", "kilos 5 = 2", "kilosAnew 5 = 2", "press 0 0", "pass 2", "take 0 0 1",
            "kilos 1 = 2", "kilosAnew 1 = 2", "kilos 5 = 0", "kilosAnew 5 = 0", "kilos 6 = Argument",
            "kilosAnew 6 = Argument", "kilos -1 = Argument", "kilosAnew -1 = Argument");
    }
}
