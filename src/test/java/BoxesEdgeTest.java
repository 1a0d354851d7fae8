/** The edges that "Boats, boxes" and "Sales, lots" name, and promises 1 to 3, 7 and 10 to 12, sentence by sentence. */
public final class BoxesEdgeTest {
    private static final String LEAST_INT = "-2147483648";
    private static final String GREATEST_INT = "2147483647";

    public static void main(String[] args) {
        nothingThereYet();
        quotaAndATenth();
        quotaAtFirst();
        quotaCountsWhatWasLanded();
        quotaOfABoatAndAKind();
        endsOfABox();
        openWithWhatIsThere();
        drawAmongTwo();
        drawAmongAll();
        drawDayBoatsFirst();
        drawJustOne();
        lotsOfABoat();
        boxesOfALot();
        carriedAndLandedAlike();
        hallsOfKinds();
        hallToldInASale();
        firstAndFurtherLots();
        landedInASale();
        endWithdraws();
        fewerLotsThanBefore();
        daysGoByWithSales();
        Check.end();
    }

    private static void nothingThereYet() {
        Run run = new Run("a new object: no boxes, no sale; the tick 0, the day 0");
        run.rows("now = 0", "day = 0", "isOpen = 0", "told 0 0 = Index", "lot 0 0 = Index", "loaded 0 = Index");
        for (int hall = 0; hall < 3; hall++) {
            run.rows("hall " + hall + " 0 = 0", "hall " + hall + " 1 = -1", "hall " + hall + " 2 = 0",
                "hall " + hall + " 3 = -1", "hall " + hall + " 4 = 0", "step " + hall + " 1 = 10",
                "power " + hall + " 1 = 1");
        }
        for (int one = 0; one < 8; one++) {
            run.rows("account " + one + " 0 = 0", "account " + one + " 1 = 0", "account " + one + " 2 = 0",
                "ship " + one + " 0 = 0", "ship " + one + " 1 = 0", "ship " + one + " 2 = 0", "line " + one + " 1 = 1",
                "aid " + one + " 5 0 = 0", "buyer " + one + " 5 1 = 0", "pay " + one + " 100000000 = 0",
                "settle " + one + " 0 100 = 0");
        }
        for (int what = 0; what < 6; what++) {
            run.rows("kilos " + what + " = 0", "kilosAnew " + what + " = 0");
        }
        for (int kind = 0; kind < 4; kind++) {
            run.rows("average " + kind + " 0 = -1", "average " + kind + " 1 = Argument");
        }
        run.rows("draw 5 = 1", "open = State", "end = State", "press 0 0 = State", "take 0 0 1 = State",
            "claim 0 0 = Index", "pass 1 = 1", "now = 1", "day = 0", "isOpen = 0");
    }

    private static void quotaAndATenth() {
        int[][] quotas = {{0, 0}, {1, 1}, {9, 9}, {10, 11}, {11, 12}, {19, 20}, {20, 22}, {29, 31}, {30, 33}, {89, 97},
            {90, 99}};
        for (int[] of : quotas) {
            String title = "above its quota " + of[0] + " and a tenth of that, rounded down";
            new Run(title).rows("quota 3 1 " + of[0], "land 3 1 0 5 " + (of[1] + 1) + " 1", "told 0 0 = 1");
            if (of[1] > 0) {
                new Run(title).rows("quota 3 1 " + of[0], "land 3 1 0 5 " + of[1] + " 100", "told 0 0 = 0",
                    "land 3 1 2 9 1 100", "told 1 0 = 1", "told 0 0 = 0", "kilos 4 = 1", "kilos 5 = " + of[1]);
            }
        }
        new Run("above its quota 100 and a tenth of that").rows("quota 0 0 100", "land 0 0 0 5 100 1",
            "land 0 0 0 5 10 1", "told 1 0 = 0", "land 0 0 0 5 1 1", "told 2 0 = 1");
    }

    private static void quotaAtFirst() {
        new Run("10000 at first, and a tenth of that").times(110, "land 7 3 0 5 100 100 = #").rows("told 109 0 = 0",
            "land 7 3 0 5 1 1 = 110", "told 110 0 = 1", "land 7 2 0 5 1 1", "told 111 0 = 0", "land 6 3 0 5 1 1",
            "told 112 0 = 0", "quota 7 3 100000 = 10000", "ship 7 2 = 11002");
        new Run("10000 at first, 11001 with this one").times(109, "land 0 0 0 5 100 100").rows("land 0 0 0 5 99 99",
            "land 0 0 0 5 2 2", "told 109 0 = 0", "told 110 0 = 1", "land 0 0 0 5 1 1", "told 111 0 = 1",
            "quota 0 0 100000", "land 0 0 0 5 100 1", "told 112 0 = 0", "quota 0 0 0 = 100000", "land 0 0 0 5 1 1",
            "told 113 0 = 1", "quota 0 0 7 = 0");
    }

    private static void quotaCountsWhatWasLanded() {
        new Run("all kilos that the boat has landed, SEIZED ones as well").rows("quota 1 0 0", "land 1 0 0 5 5 1",
            "told 0 0 = 1", "quota 1 0 5", "land 1 0 0 5 1 1", "told 1 0 = 1", "quota 1 0 10", "land 1 0 0 5 5 5",
            "told 2 0 = 0", "land 1 0 0 5 1 1", "told 3 0 = 1", "told 0 0 = 1", "ship 1 2 = 12", "kilos 4 = 7");
        new Run("all kilos that the boat has landed, MEAL as well").rows("quota 1 0 10", "aid 1 10 0",
            "land 1 0 0 5 10 10", "open", "end", "told 0 0 = 5", "land 1 0 0 5 1 1", "told 1 0 = 0", "land 1 0 0 5 1 1",
            "told 2 0 = 1");
        new Run("all kilos as weighed").rows("quota 1 0 10", "land 1 0 0 5 11 100", "told 0 0 = 0", "kilos 0 = 11");
        new Run("all kilos as weighed, really less").rows("quota 1 0 10", "land 1 0 0 5 12 1", "told 0 0 = 1");
        new Run("what was landed stays so").rows("land 1 0 0 5 12 1", "quota 1 0 0", "told 0 0 = 0", "open = 1");
    }

    private static void quotaOfABoatAndAKind() {
        Run run = new Run("a boat has a quota for each kind");
        for (int boat = 0; boat < 8; boat++) {
            for (int kind = 0; kind < 4; kind++) {
                run.rows("quota " + boat + " " + kind + " " + (10 * boat + kind) + " = 10000");
            }
        }
        for (int boat = 0; boat < 8; boat++) {
            for (int kind = 0; kind < 4; kind++) {
                run.rows("quota " + boat + " " + kind + " 100000 = " + (10 * boat + kind));
                run.rows("quota " + boat + " " + kind + " 0 = 100000");
            }
        }
    }

    private static void endsOfABox() {
        new Run("a size, 0 to 2, a freshness, 1 to 9, 1 to 100 kilos").rows("land 0 0 0 1 1 100 = 0",
            "land 7 3 2 9 100 1 = 1", "told 0 1 = 1", "told 1 1 = 9", "ship 0 2 = 1", "ship 7 2 = 100", "kilos 0 = 101",
            "aid 7 0 1", "open = 2", "lot 0 0 = 7", "lot 0 1 = 3", "lot 0 2 = 2", "lot 0 3 = 9", "lot 1 0 = 0",
            "lot 1 1 = 0", "lot 1 2 = 0", "lot 1 3 = 1", "told 0 4 = 1", "told 1 4 = 0");
        for (String outside : new String[] {"0 0 " + LEAST_INT + " 5 5 5", "0 0 " + GREATEST_INT + " 5 5 5",
            "0 0 0 " + LEAST_INT + " 5 5", "0 0 0 " + GREATEST_INT + " 5 5", "0 0 0 5 " + LEAST_INT + " 5",
            "0 0 0 5 " + GREATEST_INT + " 5", "0 0 0 5 5 " + LEAST_INT, "0 0 0 5 5 " + GREATEST_INT}) {
            new Run("land, far out of range").rows("land " + outside + " = Argument", "ship 0 2 = 0", "open = State");
        }
    }

    private static void openWithWhatIsThere() {
        new Run("open, no box is LANDED or CARRIED: none").rows("open = State", "draw 9 = 1");
        new Run("open, just a SEIZED one").rows("quota 0 0 0", "land 0 0 0 5 10 10", "open = State", "land 0 1 0 5 1 1",
            "open = 1", "told 0 0 = 1", "told 0 4 = -1", "lot 0 1 = 1", "end = 1", "told 0 0 = 1");
        new Run("open, just SOLD and GONE ones").rows("buyer 0 10000 1", "land 0 0 0 5 10 10", "open = 1", "press 0 0",
            "pass 2", "take 0 0 1 = 10000", "end = 0", "told 0 0 = 3", "open = State", "lorry 0 3 1", "pass 1",
            "told 0 0 = 4", "open = State");
        new Run("open, just a MEAL one").rows("aid 0 10 0", "land 0 0 0 5 10 10", "open", "end", "told 0 0 = 5",
            "open = State");
        new Run("open, just a ROTTEN one").rows("land 0 0 0 1 10 10", "open", "end", "told 0 0 = 7", "open = State");
        new Run("open, just a CARRIED one").rows("land 0 0 0 2 10 10", "open", "end", "told 0 0 = 6", "open = 1",
            "told 0 0 = 2", "open = State");
        new Run("open, all lots are sold, but it is open").rows("land 0 0 0 5 10 10", "land 1 0 0 5 10 10", "open = 2",
            "pass 500", "hall 0 0 = 0", "isOpen = 1", "told 0 0 = 6", "open = State", "end = 0", "isOpen = 0",
            "open = 2");
    }

    /** What is due was reckoned by hand from x * 1103515245 + 12345 and (x >>> 16) modulo 2. */
    private static void drawAmongTwo() {
        int[][] draws = {{1, 2, 5, -1770082073}, {0, 2, 5, -740551042}, {-1, 5, 2, 288979989},
            {2147483647, 5, 2, -1858503659}, {-2147483648, 2, 5, 1406932606}, {4711, 5, 2, -1843160899},
            {-5, 2, 5, 112136817}};
        for (int[] due : draws) {
            new Run("x becomes x * 1103515245 + 12345, reckoned as ints are").rows("draw " + due[0], "land 5 0 0 5 1 1",
                "land 2 0 0 5 1 1", "open = 2", "lot 0 0 = " + due[1], "lot 1 0 = " + due[2], "draw 0 = " + due[3]);
        }
        new Run("x goes on from sale to sale").rows("land 5 0 0 5 1 1", "land 2 0 0 5 1 1", "open", "end", "open",
            "draw 4711 = -999580867", "end", "land 5 0 0 5 1 1", "open", "draw 1 = 1749903380");
        new Run("x is 1 at first").rows("land 5 0 0 5 1 1", "land 2 0 0 5 1 1", "open = 2", "lot 0 0 = 2",
            "draw 3 = -1770082073", "draw " + LEAST_INT + " = 3", "draw " + GREATEST_INT + " = " + LEAST_INT,
            "draw 0 = " + GREATEST_INT);
    }

    private static void drawAmongAll() {
        drawn("all boats", 0, 1, "65347102", -1661227463);
        drawn("all boats", 0, -1, "17523406", -46141449);
        drawn("all boats", 0, 2147483647, "10264735", 2101342199);
        drawn("all boats", 0, -2147483648, "07534261", 1293799192);
        drawn("all boats, day boats all of them", 255, 1, "65347102", -1661227463);
        drawn("all boats, day boats all of them", 255, 4711, "53126704", 152233823);
    }

    private static void drawDayBoatsFirst() {
        int days = 1 << 1 | 1 << 3 | 1 << 4 | 1 << 7;
        drawn("day boats first, then the others", days, 1, "41736205", -1661227463);
        drawn("day boats first, then the others", days, 0, "17345062", -853684456);
        drawn("day boats first, then the others", days, -1, "37142506", -46141449);
        drawn("day boats first, then the others", days, 2147483647, "34172605", 2101342199);
        drawn("day boats first, then the others", days, -2147483648, "13475260", 1293799192);
        drawn("day boats first, then the others", days, 4711, "34715602", 152233823);
        new Run("a day boat no more").rows("aid 7 0 1", "aid 7 0 0", "aid 0 0 1", "land 7 0 0 5 1 1",
            "land 0 0 0 5 1 1", "open", "lot 0 0 = 0", "aid 0 0 0", "aid 7 0 1", "lot 0 0 = 0", "end", "open",
            "lot 0 0 = 7");
    }

    private static void drawn(String title, int days, int seed, String order, int behind) {
        Run run = new Run(title).rows("draw " + seed);
        for (int boat = 7; boat >= 0; boat--) {
            run.rows("aid " + boat + " 0 " + (days >> boat & 1), "land " + boat + " 0 0 5 1 1");
        }
        run.rows("open = 8");
        for (int lot = 0; lot < 8; lot++) {
            run.rows("lot " + lot + " 0 = " + order.charAt(lot),
                "told " + (7 - (order.charAt(lot) - '0')) + " 4 = " + lot);
        }
        run.rows("draw 0 = " + behind);
    }

    private static void drawJustOne() {
        int[][] draws = {{1, 1103527590}, {0, 12345}, {-1, -1103502900}, {2147483647, 1043980748},
            {-2147483648, -2147471303}};
        for (int[] due : draws) {
            new Run("also when there is just one").rows("draw " + due[0], "land 6 0 0 5 1 1", "land 6 1 0 5 1 1",
                "open = 2", "lot 0 0 = 6", "draw 0 = " + due[1]);
            new Run("one day boat, one seized").rows("draw " + due[0], "aid 6 0 1", "quota 2 0 0", "land 2 0 0 5 1 1",
                "land 6 0 0 5 1 1", "open = 1", "lot 0 0 = 6", "draw 0 = " + due[1]);
        }
        new Run("one day boat and one other: drawn once each").rows("aid 7 0 1", "land 0 0 0 5 1 1", "land 7 0 0 5 1 1",
            "open", "lot 0 0 = 7", "lot 1 0 = 0", "draw 0 = -1770082073");
    }

    /** All that can be unlike in a boat's boxes, landed in the opposite order. */
    private static void lotsOfABoat() {
        Run lots = new Run("by rising kinds, then rising sizes, then falling freshness");
        Run boxes = new Run("a lot for each kind, size and freshness");
        for (int lot = 107; lot >= 0; lot--) {
            String row = "land 4 " + lot / 27 + " " + lot / 9 % 3 + " " + (9 - lot % 9) + " 1 1";
            lots.rows(row);
            boxes.rows(row);
        }
        lots.rows("open = 108");
        boxes.rows("open = 108", "hall 0 4 = 54", "hall 1 4 = 27", "hall 2 4 = 27", "lot 108 0 = Index");
        for (int lot = 0; lot < 108; lot++) {
            lots.rows("lot " + lot + " 1 = " + lot / 27, "lot " + lot + " 2 = " + lot / 9 % 3,
                "lot " + lot + " 3 = " + (9 - lot % 9));
            boxes.rows("told " + (107 - lot) + " 4 = " + lot, "lot " + lot + " 5 = 1");
        }
    }

    private static void boxesOfALot() {
        Run run = new Run("its boxes are those alike, by rising numbers").rows("buyer 0 100000000 1",
            "land 1 0 1 5 1 1", "land 1 0 1 6 2 2", "land 1 0 1 5 4 4", "land 2 0 1 5 8 8", "land 1 0 0 5 16 16",
            "land 1 0 1 5 32 32", "aid 1 0 1", "open = 4", "lot 0 5 = 1", "lot 1 5 = 1", "lot 2 5 = 3", "lot 3 5 = 1");
        run.rows("told 4 4 = 0", "told 1 4 = 1", "told 0 4 = 2", "told 2 4 = 2", "told 5 4 = 2", "told 3 4 = 3");
        run.rows("press 0 0", "pass 2", "take 0 0 1 = 16000", "press 0 0", "pass 2", "take 0 0 1 = 2000", "press 0 0",
            "pass 2", "take 0 0 2 = 5000", "told 0 0 = 3", "told 2 0 = 3", "told 5 0 = 2", "lot 2 5 = 1", "press 0 0",
            "pass 2", "take 0 0 2 = State", "take 0 0 1 = 32000", "lot 2 5 = 0", "hall 0 1 = 3");
    }

    private static void carriedAndLandedAlike() {
        new Run("LANDED and CARRIED ones that are alike are in one lot").rows("land 1 0 0 5 1 1", "land 1 0 0 4 2 2",
            "open = 2", "end = 2", "land 1 0 0 4 4 4", "land 1 0 0 3 8 8", "land 1 0 0 5 16 16", "open = 3",
            "told 4 4 = 0", "told 0 4 = 1", "told 2 4 = 1", "told 1 4 = 2", "told 3 4 = 2", "lot 0 5 = 1",
            "lot 1 5 = 2", "lot 2 5 = 2", "lot 0 3 = 5", "lot 1 3 = 4", "lot 2 3 = 3", "end = 5", "told 0 0 = 7",
            "told 2 0 = 6", "told 1 0 = 7", "told 3 0 = 6", "told 4 0 = 6", "told 0 1 = 4", "told 2 1 = 3");
    }

    private static void hallsOfKinds() {
        new Run("the hall of its kind, which is the kind modulo 3 at first").rows("land 0 0 0 5 1 1",
            "land 0 1 0 5 1 1", "land 0 2 0 5 1 1", "land 0 3 0 5 1 1", "open = 4", "lot 0 4 = 0", "lot 1 4 = 1",
            "lot 2 4 = 2", "lot 3 4 = 0", "hall 0 4 = 2", "hall 1 4 = 1", "hall 2 4 = 1", "hall 0 1 = 0",
            "hall 1 1 = 1", "hall 2 1 = 2");
        new Run("a hall without lots is EMPTY").rows("land 0 1 0 5 1 1", "open", "hall 0 0 = 0", "hall 0 1 = -1",
            "hall 0 2 = 0", "hall 0 3 = -1", "hall 0 4 = 0", "hall 1 0 = 1", "hall 2 0 = 0", "pass 500", "hall 1 0 = 0",
            "hall 1 1 = -1", "hall 1 2 = 0", "hall 1 4 = 0");
    }

    private static void hallToldInASale() {
        new Run("the hall for sales that open from now on").rows("land 0 0 0 5 1 1", "land 0 0 1 5 1 1", "open",
            "kind 0 700 200 2", "lot 0 4 = 0", "lot 1 4 = 0", "hall 0 4 = 2", "hall 2 4 = 0", "pass 81", "hall 0 1 = 1",
            "hall 0 2 = 700", "lot 1 4 = 0", "end", "lot 0 4 = Index", "open", "lot 0 4 = 2", "hall 0 4 = 0",
            "hall 2 4 = 2", "hall 2 2 = 700");
    }

    private static void firstAndFurtherLots() {
        new Run("withdrawn: the further one is at the clock from that tick on").rows("land 0 0 0 5 1 1",
            "land 0 0 1 5 1 1", "kind 0 20 10 0", "pass 3", "open", "hall 0 1 = 0", "hall 0 2 = 20", "pass 1",
            "hall 0 2 = 10", "hall 0 1 = 0", "pass 1", "hall 0 1 = 1", "hall 0 2 = 20", "hall 0 4 = 1", "hall 0 0 = 1",
            "press 7 0 = 20");
        new Run("withdrawn: it falls first in the tick behind that").rows("land 0 0 0 5 1 1", "land 0 0 1 5 1 1",
            "kind 0 30 15 0", "open", "pass 2", "hall 0 1 = 1", "hall 0 2 = 30", "pass 1", "hall 0 2 = 20", "pass 1",
            "hall 0 0 = 0");
        new Run("taken: the further one is at the clock at once").rows("buyer 0 100000 1", "land 0 0 0 5 1 1",
            "land 0 0 1 5 1 1", "open", "press 0 0", "pass 2", "take 0 0 1", "hall 0 1 = 1", "hall 0 2 = 1000",
            "pass 1", "hall 0 2 = 990", "press 0 0 = 990");
        new Run("not taken in time: the further one from that tick on").rows("buyer 0 100000 1", "land 0 0 0 5 1 1",
            "land 0 0 1 5 1 1", "open", "press 0 0", "pass 4", "hall 0 1 = 0", "pass 1", "told 0 0 = 3", "hall 0 1 = 1",
            "hall 0 2 = 1000", "pass 1", "hall 0 2 = 990");
    }

    private static void landedInASale() {
        new Run("what lands while a sale is open waits for the next one").rows("land 0 0 0 5 1 1", "open = 1",
            "land 0 0 0 5 1 1 = 1", "told 1 0 = 0", "told 1 4 = -1", "lot 0 5 = 1", "hall 0 4 = 1", "end = 1",
            "told 1 0 = 0", "open = 2", "told 1 4 = 0", "told 0 4 = 1");
    }

    private static void endWithdraws() {
        new Run("end: nothing is OFFERED still").rows("land 0 0 0 5 1 1", "open", "pass 91", "told 0 0 = 6", "end = 0",
            "told 0 0 = 6", "told 0 4 = -1", "end = State");
        new Run("end: ahead of the last fall").rows("land 0 0 0 5 1 1", "open", "pass 90", "told 0 0 = 2", "end = 1",
            "told 0 0 = 6", "day = 1", "now = 90");
        new Run("end: standing, taking and falling").rows("buyer 0 100000 1", "land 0 0 0 5 1 1", "land 0 1 0 5 1 1",
            "land 0 2 0 5 1 1", "open", "press 0 0", "pass 1", "press 0 1", "pass 1", "hall 0 0 = 3", "hall 1 0 = 2",
            "hall 2 0 = 1", "end = 3", "hall 0 0 = 0", "hall 1 0 = 0", "hall 2 0 = 0", "hall 0 3 = -1",
            "account 0 1 = 0", "take 0 0 1 = State", "open = 3", "press 0 0 = 1000", "press 0 1 = 1000",
            "press 0 2 = 1000");
        new Run("end: all halls are EMPTY").rows("buyer 0 100000 1", "land 0 0 0 5 1 1", "land 0 0 1 5 1 1",
            "land 0 1 0 5 1 1", "land 0 1 1 5 1 1", "land 0 1 2 5 1 1", "open = 5", "press 0 0", "pass 2", "take 0 0 1",
            "hall 0 4 = 1", "hall 1 4 = 3", "end = 4", "hall 0 1 = -1", "hall 0 2 = 0", "hall 0 4 = 0", "hall 1 1 = -1",
            "hall 1 2 = 0", "hall 1 4 = 0", "pass 5", "hall 0 2 = 0", "hall 1 2 = 0", "hall 1 0 = 0", "kilos 5 = 4");
        new Run("end: by rising lots").rows("land 1 0 0 5 10 10", "land 1 0 1 5 5 5", "land 1 0 1 5 6 6", "aid 1 16 0",
            "open = 2", "end = 3", "told 0 0 = 5", "told 1 0 = 5", "told 2 0 = 6", "ship 1 1 = 1", "ship 1 0 = 300");
    }

    private static void fewerLotsThanBefore() {
        new Run("numbered from 0 in each sale, fewer than in the one before").rows("aid 0 3 0", "land 0 0 0 5 1 1",
            "land 0 0 1 5 1 1", "land 0 0 2 5 1 1", "land 0 3 2 5 1 1", "open = 4", "hall 0 4 = 4", "end = 4",
            "told 2 0 = 5", "told 3 0 = 6", "open = 1", "told 3 4 = 0", "told 0 4 = -1", "lot 1 0 = Index",
            "lot 0 1 = 3", "hall 0 4 = 1", "pass 90", "hall 0 0 = 0", "hall 0 1 = -1", "hall 0 4 = 0", "pass 5",
            "hall 0 0 = 0", "end = 0", "land 0 2 0 5 1 1", "open = 1", "pass 200", "hall 0 0 = 0", "hall 2 0 = 0",
            "told 4 0 = 6", "end = 0");
    }

    private static void daysGoByWithSales() {
        Run run = new Run("days are counted from 0").rows("buyer 0 1000000 1");
        for (int day = 0; day < 40; day++) {
            run.rows("day = " + day, "land 0 0 0 2 1 1 = " + day, "open = " + (day == 0 ? 1 : 2),
                "end = " + (day == 0 ? 1 : 2));
        }
        run.rows("day = 40", "average 0 40 = -1", "average 0 0 = -1", "average 0 41 = Argument",
            "average 0 -1 = Argument", "now = 0", "kilos 3 = 39", "kilos 5 = 1");
    }
}
