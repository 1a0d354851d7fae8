/** The edges that "Clocks" names, and those of promises 4 to 9 and 13 to 15, sentence by sentence. */
public final class ClocksEdgeTest {
    public static void main(String[] args) {
        startsAndMinimums();
        minimumOfSizes();
        minimumToldInASale();
        startBelowTheMinimum();
        steps();
        pressOnceARound();
        pressKeepsThePrice();
        delaysAtTheirEnds();
        standsUntil();
        heardInTime();
        heardWithoutPower();
        whoWins();
        whoCounts();
        noneCounts();
        roundsEnd();
        takenInTime();
        takenByTheClock();
        guaranteeOfTheLateWinner();
        takeSomeOrAll();
        ticksOneByOne();
        hallsByRisingNumbers();
        Check.end();
    }

    /** One lot of two boxes of 10 kilos in the hall 0, and buyers with much money and these delays. */
    private static Run lot(String title, int... delays) {
        Run run = new Run(title);
        for (int buyer = 0; buyer < delays.length; buyer++) {
            run.rows("buyer " + buyer + " 100000000 " + delays[buyer]);
        }
        return run.rows("land 0 0 0 5 10 10", "land 0 0 0 5 10 10", "open = 1");
    }

    private static void startsAndMinimums() {
        new Run("1000 at first, and 100 at first").rows("land 0 0 0 5 1 1", "open", "hall 0 2 = 1000", "pass 90",
            "hall 0 2 = 100", "hall 0 0 = 1", "told 0 0 = 2", "press 0 0 = 100", "pass 1", "hall 0 0 = 2");
        new Run("below 100 it is withdrawn").rows("land 0 0 0 5 1 1", "open", "pass 91", "hall 0 0 = 0",
            "told 0 0 = 6");
        for (int kind = 0; kind < 4; kind++) {
            int hall = kind % 3;
            new Run("99 is below 100").rows("land 0 " + kind + " 0 5 1 1", "open", "hall " + hall + " 2 = 1000",
                "pass 90", "step " + hall + " 1", "hall " + hall + " 2 = 100", "pass 1", "hall " + hall + " 0 = 0",
                "told 0 0 = 6");
        }
        new Run("the least start and minimum").rows("kind 0 1 1 0", "land 0 0 0 5 1 1", "buyer 0 1 1", "open",
            "hall 0 2 = 1", "press 0 0 = 1", "pass 2", "take 0 0 1 = 1", "account 0 1 = 1", "ship 0 0 = 1");
        new Run("the least start and minimum, it falls").rows("kind 0 1 1 0", "land 0 0 0 5 1 1", "step 0 1", "open",
            "pass 1", "hall 0 0 = 0", "told 0 0 = 6");
        new Run("down to 1").rows("kind 0 2 1 0", "land 0 0 0 5 1 1", "step 0 1", "open", "pass 1", "hall 0 2 = 1",
            "pass 1", "hall 0 0 = 0");
        new Run("the greatest start and minimum").rows("kind 3 10000 10000 1", "land 0 3 0 5 100 1",
            "buyer 7 100000000 1", "open", "hall 1 2 = 10000", "press 7 1 = 10000", "pass 2", "take 7 1 1 = 1000000",
            "average 3 0 = 10000", "ship 0 0 = 1000000", "claim 7 0 = 990000");
        new Run("the greatest minimum, it falls").rows("kind 3 10000 10000 1", "land 0 3 0 5 1 1", "step 1 1", "open",
            "pass 1", "hall 1 0 = 0");
    }

    private static void minimumOfSizes() {
        int[][] due = {{100, 0, 100}, {100, 1, 110}, {100, 2, 120}, {99, 1, 108}, {99, 2, 118}, {9, 1, 9}, {9, 2, 10},
            {10, 1, 11}, {10, 2, 12}, {5, 1, 5}, {5, 2, 6}, {4, 2, 4}, {1, 0, 1}, {1, 1, 1}, {1, 2, 1}, {15, 1, 16},
            {15, 2, 18}, {155, 1, 170}, {155, 2, 186}, {8181, 2, 9817}, {9089, 1, 9997}};
        for (int[] of : due) {
            new Run("the minimum " + of[0] + " for the size " + of[1] + ", rounded down together").rows(
                "kind 1 " + (of[2] + 2) + " " + of[0] + " 1", "step 1 1", "land 0 1 " + of[1] + " 5 1 1", "open",
                "pass 2", "hall 1 2 = " + of[2], "hall 1 0 = 1", "told 0 0 = 2", "pass 1", "hall 1 0 = 0",
                "told 0 0 = 6");
        }
    }

    private static void minimumToldInASale() {
        new Run("the minimum holds for lots at clocks as well").rows("land 0 0 0 5 1 1", "open", "pass 5",
            "kind 0 2000 950 0", "hall 0 2 = 950", "pass 1", "hall 0 0 = 0");
        new Run("the minimum at the clock, not below").rows("land 0 0 0 5 1 1", "open", "pass 5", "kind 0 2000 940 0",
            "pass 1", "hall 0 2 = 940", "kind 0 2000 1 0", "pass 93", "hall 0 2 = 10", "pass 1", "hall 0 0 = 0");
        new Run("the start holds for lots that come from now on").rows("land 0 0 0 5 1 1", "land 0 0 1 5 1 1", "open",
            "kind 0 1234 991 0", "hall 0 2 = 1000", "pass 1", "hall 0 1 = 1", "hall 0 2 = 1234");
    }

    private static void startBelowTheMinimum() {
        new Run("a start below the minimum is shown until it falls").rows("kind 0 50 60 0", "buyer 0 1000 1",
            "land 0 0 0 5 1 1", "open", "hall 0 0 = 1", "hall 0 2 = 50", "press 0 0 = 50", "pass 2", "hall 0 3 = 0",
            "take 0 0 1 = 50");
        new Run("a start below the minimum, nobody presses").rows("kind 0 50 60 0", "land 0 0 0 5 1 1", "open",
            "pass 1", "hall 0 0 = 0");
    }

    private static void steps() {
        new Run("the step, 10 at first, 1 to 500").rows("land 0 1 0 5 1 1", "open", "pass 1", "hall 1 2 = 990",
            "step 1 1 = 10", "pass 1", "hall 1 2 = 989", "step 1 500 = 1", "pass 1", "hall 1 2 = 489", "pass 1",
            "hall 1 0 = 0", "step 1 10 = 500");
        new Run("the step of the hall").rows("land 0 0 0 5 1 1", "land 0 1 0 5 1 1", "land 0 2 0 5 1 1", "step 0 1",
            "step 2 500", "open", "pass 1", "hall 0 2 = 999", "hall 1 2 = 990", "hall 2 2 = 500");
        new Run("a price below 0 is below the minimum").rows("kind 0 499 1 0", "step 0 500", "land 0 0 0 5 1 1", "open",
            "pass 1", "hall 0 0 = 0", "hall 0 2 = 0");
        new Run("a price of 0 is below the minimum").rows("kind 0 500 1 0", "step 0 500", "land 0 0 0 5 1 1", "open",
            "pass 1", "hall 0 0 = 0", "told 0 0 = 6");
        new Run("a price of 1 is not").rows("kind 0 501 1 0", "step 0 500", "land 0 0 0 5 1 1", "open", "pass 1",
            "hall 0 0 = 1", "hall 0 2 = 1");
    }

    private static void pressOnceARound() {
        lot("once as long as it is the same round", 3, 1).rows("press 0 0 = 1000", "press 0 0 = State", "pass 2",
            "press 0 0 = State", "press 1 0 = 980", "press 1 0 = State", "pass 1", "press 1 0 = State");
        lot("again when somebody has won and taken", 1, 1).rows("press 0 0", "press 1 0", "pass 2", "take 0 0 1",
            "press 0 0 = 1000", "press 1 0 = 1000", "press 1 0 = State");
        lot("again when somebody has won and gets none", 1, 1).rows("press 0 0", "press 1 0", "pass 2",
            "buyer 0 9999 1", "pass 3", "hall 0 0 = 1", "told 0 0 = 2", "press 0 0 = 1000", "press 1 0 = 1000",
            "press 0 0 = State");
        new Run("again when nobody has won").rows("land 0 0 0 5 10 10", "open", "press 0 0", "press 5 0", "pass 2",
            "hall 0 0 = 1", "press 0 0 = 1000", "press 5 0 = 1000", "press 5 0 = State");
        new Run("again when the lot is done with").rows("kind 0 20 15 0", "land 0 0 0 5 1 1", "land 0 0 1 5 1 1",
            "buyer 0 5 9", "open", "press 0 0 = 20", "pass 1", "hall 0 1 = 1", "press 0 0 = 20", "press 0 0 = State");
        lot("once in each hall", 1).rows("end", "land 0 1 0 5 1 1", "land 0 2 0 5 1 1", "open", "press 0 0",
            "press 0 1", "press 0 2", "press 0 0 = State", "press 0 1 = State", "press 0 2 = State");
    }

    private static void pressKeepsThePrice() {
        lot("the press keeps the price that is shown", 9, 1).rows("pass 3", "press 0 0 = 970", "pass 8",
            "hall 0 2 = 890", "pass 1", "hall 0 0 = 2", "hall 0 2 = 890", "pass 8", "hall 0 0 = 2", "pass 1",
            "hall 0 0 = 3", "hall 0 2 = 970", "take 0 0 1 = 9700", "told 0 3 = 970", "hall 0 0 = 1", "hall 0 2 = 970",
            "pass 1", "hall 0 2 = 960");
        lot("from that price on, though below the minimum then", 1).rows("press 0 0 = 1000", "pass 2",
            "kind 0 1000 5000 0", "take 0 0 1 = 10000", "hall 0 2 = 1000", "press 0 0 = 1000", "pass 2",
            "take 0 0 1 = 10000");
        lot("as a press of the price 1000 is under way, the clock falls to the end", 9).rows("kind 0 1 960 0",
            "press 0 0", "pass 4", "hall 0 2 = 960", "pass 1", "hall 0 0 = 0", "told 0 0 = 6", "told 1 0 = 6");
    }

    private static void delaysAtTheirEnds() {
        lot("the delay is 1 at first").rows("press 3 0", "hall 0 0 = 1", "pass 1", "hall 0 0 = 2", "pass 1",
            "hall 0 0 = 1");
        for (int delay = 1; delay <= 9; delay++) {
            Run run = lot("comes so many ticks later as the delay tells: " + delay, delay).rows("press 0 0");
            run.times(delay - 1, "pass 1").rows("hall 0 0 = 1", "pass 1", "hall 0 0 = 2", "hall 0 2 = "
                + (1000 - 10 * (delay - 1)));
        }
        lot("the delay as the buyer tells then", 2).rows("press 0 0", "buyer 0 100000000 9", "pass 1", "hall 0 0 = 1",
            "pass 1", "hall 0 0 = 2");
        lot("the delay as the buyer tells then, less later", 9).rows("press 0 0", "buyer 0 100000000 1", "pass 8",
            "hall 0 0 = 1", "pass 1", "hall 0 0 = 2");
    }

    private static void standsUntil() {
        for (int delay = 1; delay <= 9; delay++) {
            Run run = lot("so many behind as the greatest delay of all buyers: " + delay, 1, 1, 1).rows(
                "buyer 7 0 " + delay, "press 1 0", "pass 1", "hall 0 0 = 2");
            run.times(delay - 1, "pass 1").rows("hall 0 0 = 2", "hall 0 3 = -1", "pass 1", "hall 0 0 = 3",
                "hall 0 3 = 1");
        }
        lot("the greatest delay of all buyers, though its line is not up", 1).rows("buyer 5 0 3", "line 5 0",
            "press 0 0", "pass 3", "hall 0 0 = 2", "pass 1", "hall 0 0 = 3");
        lot("the greatest delay is then, later ones do not matter", 1).rows("press 0 0", "pass 1", "hall 0 0 = 2",
            "buyer 5 0 9", "pass 1", "hall 0 0 = 3");
        lot("the greatest delay is then, earlier ones do not matter", 1).rows("buyer 5 0 9", "press 0 0", "buyer 5 0 3",
            "pass 1", "buyer 5 0 1", "pass 2", "hall 0 0 = 2", "pass 1", "hall 0 0 = 3");
        lot("ticks without power go by as well", 1).rows("buyer 5 0 4", "press 0 0", "pass 1", "power 0 0", "pass 3",
            "hall 0 0 = 2", "power 0 1", "pass 1", "hall 0 0 = 3");
        lot("or a later one", 1).rows("buyer 5 0 4", "press 0 0", "pass 1", "power 0 0", "pass 20", "hall 0 0 = 2",
            "power 0 1", "hall 0 0 = 2", "pass 1", "hall 0 0 = 3", "pass 2", "hall 0 0 = 3", "told 0 0 = 2", "pass 1",
            "told 0 0 = 3");
        lot("the power back ahead of that tick", 1).rows("buyer 5 0 4", "press 0 0", "pass 1", "power 0 0", "pass 2",
            "power 0 1", "pass 1", "hall 0 0 = 2", "pass 1", "hall 0 0 = 3");
    }

    private static void heardInTime() {
        lot("a press that comes in the last tick counts", 1, 9).rows("press 1 0 = 1000", "buyer 1 100000000 1",
            "pass 7", "press 0 0 = 930", "pass 1", "hall 0 0 = 2", "pass 1", "hall 0 0 = 3", "hall 0 3 = 1",
            "hall 0 2 = 1000");
        lot("a press that comes behind it is lost", 1, 9).rows("press 1 0 = 1000", "buyer 1 100000000 1", "pass 6",
            "press 0 0 = 940", "pass 2", "hall 0 0 = 3", "hall 0 3 = 0", "hall 0 2 = 940", "take 0 0 1 = 9400",
            "pass 1", "hall 0 0 = 1", "hall 0 2 = 930", "press 1 0 = 930", "pass 1", "hall 0 0 = 2");
        lot("a press that comes as the clock stands counts", 1, 4).rows("press 1 0 = 1000", "pass 1", "press 0 0 = 990",
            "pass 1", "hall 0 0 = 2", "pass 4", "hall 0 3 = 1");
        lot("late by the power it counts, as it comes ahead of the tick that is later", 1, 9).rows("press 1 0 = 1000",
            "buyer 1 100000000 1", "pass 6", "press 0 0 = 940", "pass 1", "hall 0 0 = 2", "power 0 0", "pass 1",
            "power 0 1", "pass 1", "hall 0 0 = 3", "hall 0 3 = 1");
    }

    private static void heardWithoutPower() {
        lot("or should have come while the power was off", 3).rows("press 0 0", "power 0 0", "pass 3", "hall 0 0 = 1",
            "hall 0 2 = 1000", "power 0 1", "hall 0 0 = 1", "pass 1", "hall 0 0 = 2", "hall 0 2 = 1000");
        lot("the tick itself without power", 1).rows("press 0 0", "power 0 0", "pass 1", "hall 0 0 = 1", "power 0 1",
            "pass 1", "hall 0 0 = 2", "pass 1", "hall 0 0 = 3");
        lot("not yet, when the power is back", 3).rows("press 0 0", "power 0 0", "pass 1", "power 0 1", "pass 1",
            "hall 0 0 = 1", "hall 0 2 = 990", "pass 1", "hall 0 0 = 2");
        lot("standing counts from the tick in which it is heard", 1).rows("buyer 4 0 2", "press 0 0", "power 0 0",
            "pass 7", "power 0 1", "pass 1", "hall 0 0 = 2", "pass 1", "hall 0 0 = 2", "pass 1", "hall 0 0 = 3");
        new Run("the first lot is at the clock from the opening on, without power as well").rows("power 0 0",
            "land 0 0 0 5 1 1", "open", "hall 0 0 = 1", "hall 0 1 = 0", "hall 0 2 = 1000", "hall 0 4 = 1", "pass 3",
            "press 0 0 = State", "power 0 1", "press 0 0 = 1000", "pass 1", "hall 0 0 = 2");
        lot("the price does not fall without power").rows("power 0 0", "pass 500", "hall 0 2 = 1000", "hall 0 0 = 1",
            "power 0 1", "pass 1", "hall 0 2 = 990");
        lot("a press stays so without a line", 2).rows("press 0 0", "line 0 0", "pass 4", "hall 0 3 = 0",
            "take 0 0 1 = 10000", "press 0 0 = State", "line 0 1", "press 0 0 = 1000");
    }

    private static void whoWins() {
        lot("the greatest price wins", 1, 2).rows("step 0 1", "press 1 0 = 1000", "pass 1", "press 0 0 = 999", "pass 3",
            "hall 0 3 = 1");
        lot("the greatest price wins, be it that of the lowest buyer", 2, 1).rows("step 0 1", "press 0 0 = 1000",
            "pass 1", "press 1 0 = 999", "pass 3", "hall 0 3 = 0");
        lot("of several the one that was pressed in the earliest tick", 4, 4, 4).rows("press 2 0 = 1000", "power 0 0",
            "pass 1", "power 0 1", "press 1 0 = 1000", "press 0 0 = 1000", "pass 7", "hall 0 0 = 3", "hall 0 3 = 2");
        lot("and then that of the lowest buyer", 1, 1, 1, 1, 1, 1, 1, 1).rows("press 7 0", "press 3 0", "press 5 0",
            "pass 2", "hall 0 3 = 3");
        lot("the lowest and the greatest buyer", 1, 1, 1, 1, 1, 1, 1, 1).rows("press 7 0", "press 0 0", "pass 2",
            "hall 0 3 = 0");
    }

    private static void whoCounts() {
        lot("a guarantee left for the first box, just enough", 1).rows("buyer 0 10000 1", "press 0 0", "pass 2",
            "hall 0 0 = 3", "take 0 0 1 = 10000");
        lot("a guarantee left for the first box, 1 less", 1).rows("buyer 0 9999 1", "press 0 0", "pass 2",
            "hall 0 0 = 1", "hall 0 3 = -1");
        lot("at the price that the press kept", 2).rows("buyer 0 9999 2", "press 0 0 = 1000", "pass 1",
            "hall 0 2 = 990", "pass 3", "hall 0 0 = 1", "hall 0 2 = 990", "press 0 0 = 990", "pass 4", "hall 0 3 = 0");
        new Run("a guarantee left for its kilos as weighed").rows("buyer 0 10000 1", "land 0 0 0 5 10 100",
            "land 0 0 0 5 11 1", "open", "press 0 0", "pass 2", "hall 0 3 = 0", "take 0 0 1 = 10000", "buyer 0 20999 1",
            "press 0 0", "pass 2", "hall 0 0 = 1", "buyer 0 21000 1", "press 0 0", "pass 5", "told 1 0 = 3",
            "account 0 1 = 21000");
        lot("what is left is that less what the buyer owes", 1).rows("buyer 0 19999 1", "press 0 0", "pass 2",
            "take 0 0 1 = 10000", "press 0 0 = 1000", "pass 2", "hall 0 0 = 1", "pay 0 1 = 1", "press 0 0 = 1000",
            "pass 2", "hall 0 3 = 0", "take 0 0 1 = 10000", "account 0 1 = 19999");
        lot("the guarantee as it is when it counts", 1).rows("buyer 0 0 1", "press 0 0", "pass 1", "buyer 0 10000 1",
            "pass 1", "hall 0 3 = 0");
        lot("the greatest price does not count, the next one wins", 2, 1).rows("buyer 0 9999 2", "press 0 0 = 1000",
            "pass 1", "press 1 0 = 990", "pass 3", "hall 0 3 = 1", "hall 0 2 = 990");
        new Run("for the first box that is left").rows("buyer 0 100000 1", "buyer 1 5000 1", "land 0 0 0 5 10 10",
            "land 0 0 0 5 5 5", "open", "press 1 0", "pass 2", "hall 0 0 = 1", "press 0 0", "pass 2", "take 0 0 1",
            "press 1 0", "pass 2", "hall 0 3 = 1", "take 1 0 1 = 5000");
    }

    private static void noneCounts() {
        for (int hall = 0; hall < 3; hall++) {
            new Run("if none counts, in the hall " + hall).rows("buyer 7 100000 9", "land 0 0 0 5 10 10",
                "land 0 1 0 5 10 10", "land 0 2 0 5 10 10", "open", "press 0 " + hall, "pass 1",
                "hall " + hall + " 0 = 2", "pass 9", "hall " + hall + " 0 = 1", "hall " + hall + " 3 = -1",
                "hall " + hall + " 2 = 1000");
        }
        lot("if none counts, the clock is FALLING again, at the price that it had").rows("pass 4", "press 0 0 = 960",
            "pass 1", "hall 0 0 = 2", "pass 1", "hall 0 0 = 1", "hall 0 2 = 960", "pass 1", "hall 0 2 = 950",
            "hall 0 0 = 1");
        lot("then presses that have not come are lost", 9, 1).rows("buyer 1 0 1", "press 0 0", "buyer 0 100000000 1",
            "pass 1", "press 1 0 = 990", "pass 2", "hall 0 0 = 1", "hall 0 2 = 990", "pass 7", "hall 0 0 = 1",
            "hall 0 2 = 920");
    }

    private static void roundsEnd() {
        for (int hall = 0; hall < 3; hall++) {
            int next = (hall + 1) % 3;
            int last = (hall + 2) % 3;
            new Run("a round that ends in the hall " + hall + " leaves the presses in the others").rows(
                "land 0 0 0 5 1 1", "land 0 1 0 5 1 1", "land 0 2 0 5 1 1", "open", "buyer 0 0 4", "buyer 7 0 4",
                "press 0 " + next, "press 7 " + last, "buyer 0 0 1", "buyer 7 0 1", "press 4 " + hall, "pass 2",
                "hall " + hall + " 0 = 1", "press 0 " + next + " = State", "press 7 " + last + " = State", "pass 1",
                "hall " + next + " 0 = 1", "hall " + last + " 0 = 1", "pass 1", "hall " + next + " 0 = 2",
                "hall " + last + " 0 = 2", "hall " + hall + " 0 = 1");
        }
        lot("presses that have not come are lost when somebody has won", 1, 9).rows("press 1 0", "buyer 1 100000000 1",
            "press 0 0", "pass 2", "hall 0 3 = 0", "take 0 0 1", "pass 10", "hall 0 0 = 1", "hall 0 2 = 900");
        new Run("presses that have not come are lost when the lot is done with").rows("buyer 0 100000 9",
            "kind 0 100 95 0", "land 0 0 0 5 1 1", "land 0 0 0 6 1 1", "open", "press 0 0", "pass 1", "hall 0 1 = 1",
            "step 0 1", "pass 5", "hall 0 0 = 1", "pass 1", "hall 0 0 = 0");
        new Run("presses of a sale that ended are lost").rows("buyer 0 100000 2", "land 0 0 0 5 1 1", "open",
            "press 0 0", "end", "open", "pass 3", "hall 0 0 = 1", "hall 0 2 = 970");
    }

    private static void takenInTime() {
        lot("the winner takes at once", 1).rows("press 0 0", "pass 2", "take 0 0 2 = 20000", "hall 0 0 = 0",
            "hall 0 4 = 0");
        lot("the winner takes behind the second tick", 1).rows("press 0 0", "pass 4", "hall 0 0 = 3",
            "take 0 0 2 = 20000", "hall 0 0 = 0");
        lot("the winner cannot take behind the third tick", 1).rows("press 0 0", "pass 5", "hall 0 0 = 1",
            "take 0 0 1 = State", "told 0 0 = 3", "told 1 0 = 2");
        lot("the winner takes late, as the power was off", 1).rows("press 0 0", "pass 2", "power 0 0", "pass 100",
            "take 0 0 2 = State", "power 0 1", "take 0 0 2 = 20000");
    }

    private static void takenByTheClock() {
        lot("by the third tick behind that in which it won", 1).rows("press 0 0", "pass 2", "hall 0 0 = 3", "pass 2",
            "hall 0 0 = 3", "account 0 1 = 0", "pass 1", "hall 0 0 = 1", "hall 0 2 = 1000", "hall 0 3 = -1",
            "account 0 1 = 10000", "account 0 2 = 1", "told 0 2 = 0", "told 0 3 = 1000", "lot 0 5 = 1", "pass 1",
            "hall 0 2 = 990");
        lot("or a later one, if that was without power", 1).rows("press 0 0", "pass 4", "power 0 0", "pass 1",
            "told 0 0 = 2", "hall 0 0 = 3", "power 0 1", "told 0 0 = 2", "pass 1", "told 0 0 = 3", "hall 0 0 = 1");
        lot("the power back by the third tick", 1).rows("press 0 0", "pass 2", "power 0 0", "pass 2", "power 0 1",
            "pass 1", "told 0 0 = 3");
        lot("if no boxes are left, the lot is done with", 1).rows("press 0 0", "pass 2", "take 0 0 1", "press 0 0",
            "pass 5", "told 1 0 = 3", "hall 0 0 = 0", "hall 0 1 = -1", "hall 0 2 = 0", "hall 0 3 = -1", "hall 0 4 = 0");
    }

    private static void guaranteeOfTheLateWinner() {
        lot("if its guarantee is enough then: just", 1).rows("press 0 0", "pass 4", "buyer 0 10000 1", "pass 1",
            "told 0 0 = 3", "account 0 1 = 10000");
        lot("if not, it gets none", 1).rows("press 0 0", "pass 4", "buyer 0 9999 1", "pass 1", "told 0 0 = 2",
            "account 0 1 = 0", "account 0 2 = 0", "hall 0 0 = 1", "hall 0 2 = 1000", "hall 0 3 = -1", "lot 0 5 = 2",
            "pass 1", "hall 0 2 = 990");
        lot("it gets none, from the price of the press on", 3).rows("press 0 0 = 1000", "pass 6", "hall 0 0 = 3",
            "buyer 0 0 3", "pass 3", "hall 0 0 = 1", "hall 0 2 = 1000", "told 0 0 = 2");
    }

    private static void takeSomeOrAll() {
        lot("1 to those of the lot that are left", 1).rows("press 0 0", "pass 2", "take 0 0 0 = State",
            "take 0 0 3 = State", "take 0 0 -1 = State", "take 0 0 2147483647 = State", "take 0 0 -2147483648 = State",
            "take 0 0 1 = 10000", "press 0 0", "pass 2", "take 0 0 2 = State", "take 0 0 0 = State",
            "take 0 0 1 = 10000");
        lot("more than is left of the guarantee", 1).rows("buyer 0 20000 1", "press 0 0", "pass 2", "buyer 0 19999 1",
            "take 0 0 2 = State", "buyer 0 20000 1", "take 0 0 2 = 20000", "account 0 1 = 20000", "account 0 2 = 2");
        lot("more than is left, not even one", 1).rows("press 0 0", "pass 2", "buyer 0 9999 1", "take 0 0 1 = State",
            "take 0 0 2 = State", "hall 0 0 = 3", "hall 0 3 = 0", "lot 0 5 = 2", "buyer 0 10000 1",
            "take 0 0 1 = 10000");
    }

    /** The calls that tell and press, then 40 ticks: at once in the one, one by one in the other. */
    private static void ticksOneByOne() {
        String[] calls = {"buyer 0 100000 2", "buyer 1 100000 5", "land 0 0 0 5 10 10", "land 0 0 0 5 10 10",
            "land 1 1 0 5 10 10", "land 2 2 1 5 10 10", "land 2 2 2 5 10 10", "kind 2 200 170 2", "lorry 0 9 1",
            "lorry 1 30 4", "open", "press 0 0", "press 1 0", "press 1 1"};
        Run atOnce = new Run("pass: ticks go by at once").rows(calls).rows("pass 40 = 40");
        Run oneByOne = new Run("pass: ticks go by one by one").rows(calls).times(40, "pass 1").rows("now = 40");
        for (Run run : new Run[] {atOnce, oneByOne}) {
            run.rows("told 0 0 = 3", "told 1 0 = 2", "told 2 0 = 4", "told 3 0 = 6", "told 4 0 = 6", "hall 0 0 = 1",
                "hall 0 2 = 700", "hall 1 0 = 0", "hall 2 0 = 0", "loaded 0 = 0", "loaded 1 = 1",
                "account 0 1 = 10000", "account 1 1 = 10000");
        }
    }

    private static void hallsByRisingNumbers() {
        new Run("in each hall by rising numbers: aid").rows("aid 0 10 0", "kind 0 10 10 2", "kind 1 10 10 1",
            "kind 2 10 10 0", "land 0 0 0 5 10 10", "land 0 1 0 5 10 10", "land 0 2 0 5 10 10", "open", "pass 1",
            "told 2 0 = 5", "told 0 0 = 6", "told 1 0 = 6", "ship 0 0 = 200", "ship 0 1 = 0");
        new Run("in each hall by rising numbers: guarantees").rows("buyer 0 10000 1", "kind 0 1000 100 2",
            "kind 2 1000 100 0", "land 0 0 0 5 10 10", "land 0 2 0 5 10 10", "open", "press 0 0", "press 0 2", "pass 2",
            "hall 0 3 = 0", "hall 2 3 = 0", "pass 3", "told 1 0 = 3", "told 0 0 = 2", "hall 2 0 = 1",
            "hall 2 2 = 1000");
        new Run("in each hall by rising numbers: got in the hall 0, it does not count in the hall 1").rows(
            "buyer 0 10000 1", "land 0 0 0 5 10 10", "land 0 1 0 5 10 10", "open", "press 0 0 = 1000", "pass 3",
            "press 0 1 = 970", "pass 1", "hall 1 0 = 2", "pass 1", "told 0 0 = 3", "hall 1 0 = 1", "hall 1 2 = 970",
            "hall 1 3 = -1", "told 1 0 = 2");
        new Run("in each hall by rising numbers: it wins in the hall 0 ahead of what it gets in the hall 1").rows(
            "buyer 0 10000 1", "land 0 0 0 5 10 10", "land 0 1 0 5 10 10", "open", "press 0 1 = 1000", "pass 3",
            "press 0 0 = 970", "pass 2", "told 1 0 = 3", "hall 0 0 = 3", "hall 0 3 = 0", "take 0 0 1 = State", "pass 3",
            "hall 0 0 = 1", "hall 0 2 = 970", "told 0 0 = 2");
    }
}
