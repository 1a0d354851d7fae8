/** A quay that sells fish on falling price clocks in three halls at once. */
public final class Fishclock {
    public static final int NONE = -1;
    public static final int LANDED = 0, SEIZED = 1, OFFERED = 2, SOLD = 3, GONE = 4, MEAL = 5, CARRIED = 6, ROTTEN = 7;
    public static final int EMPTY = 0, FALLING = 1, STANDING = 2, TAKING = 3;

    private static final int BOATS = 8;
    private static final int KINDS = 4;
    private static final int HALLS = 3;
    private static final int BUYERS = 8;
    private static final int SIZES = 3;
    private static final int FRESHEST = 9;
    private static final int MOST_BOXES = 150;
    private static final int MOST_LORRIES = 20;
    private static final int MOST_TOLD_KILOS = 100000;
    private static final int MOST_BOX_KILOS = 100;
    private static final int MOST_PRICE = 10000;
    private static final int MOST_STEP = 500;
    private static final int MOST_DELAY = 9;
    private static final int MOST_CENTS = 100000000;
    private static final int MOST_COSTS = 10000000;
    private static final int MOST_PASSED = 500;
    private static final int MOST_LOADED = 50;
    private static final int LAST_TICK = 100000;
    private static final int TICKS_TO_TAKE = 3;
    private static final int TICKS_TO_CLAIM = 240;
    private static final int MEAL_CENTS = 20;

    private static final int LANDED_AT_ALL = 0;
    private static final int KILOS_SOLD = 1;
    private static final int KILOS_MEAL = 2;
    private static final int KILOS_ROTTEN = 3;
    private static final int KILOS_SEIZED = 4;
    private static final int IN_THE_HOUSE = 5;

    private final Boats boats;
    private final Kinds kinds;
    private final Buyers buyers;
    private final Boxes boxes;
    private final Lots lots;
    private final Clocks clocks;
    private final Presses presses;
    private final Lorries lorries;
    private int now;
    private int day;
    private boolean isOpen;
    private int drawn;

    public Fishclock() {
        boats = new Boats();
        kinds = new Kinds();
        buyers = new Buyers();
        boxes = new Boxes();
        lots = new Lots();
        clocks = new Clocks();
        presses = new Presses();
        lorries = new Lorries();
        now = 0;
        day = 0;
        isOpen = false;
        drawn = 1;
    }

    // ---- what is told

    public int quota(int boat, int kind, int kilos) throws IndexOutOfBoundsException, IllegalArgumentException {
        mustExist(boat, BOATS);
        mustExist(kind, KINDS);
        mustBeIn(kilos, 0, MOST_TOLD_KILOS);
        return boats.quota.swap(Boats.placeOf(boat, kind), kilos);
    }

    public int aid(int boat, int kilos, boolean isDay) throws IndexOutOfBoundsException, IllegalArgumentException {
        mustExist(boat, BOATS);
        mustBeIn(kilos, 0, MOST_TOLD_KILOS);
        boats.isDay.put(boat, isDay ? 1 : 0);
        return boats.aid.swap(boat, kilos);
    }

    public void kind(int kind, int start, int minimum, int hall)
            throws IndexOutOfBoundsException, IllegalArgumentException {
        mustExist(kind, KINDS);
        mustExist(hall, HALLS);
        mustBeIn(start, 1, MOST_PRICE);
        mustBeIn(minimum, 1, MOST_PRICE);
        kinds.start.put(kind, start);
        kinds.minimum.put(kind, minimum);
        kinds.hall.put(kind, hall);
    }

    public int step(int hall, int cents) throws IndexOutOfBoundsException, IllegalArgumentException {
        mustExist(hall, HALLS);
        mustBeIn(cents, 1, MOST_STEP);
        return clocks.step.swap(hall, cents);
    }

    public int buyer(int buyer, int guarantee, int delay) throws IndexOutOfBoundsException, IllegalArgumentException {
        mustExist(buyer, BUYERS);
        mustBeIn(guarantee, 0, MOST_CENTS);
        mustBeIn(delay, 1, MOST_DELAY);
        buyers.delay.put(buyer, delay);
        return buyers.guarantee.swap(buyer, guarantee);
    }

    public int draw(int x) {
        int before = drawn;
        drawn = x;
        return before;
    }

    public boolean power(int hall, boolean is) throws IndexOutOfBoundsException {
        mustExist(hall, HALLS);
        return clocks.power.swap(hall, is ? 1 : 0) == 1;
    }

    public boolean line(int buyer, boolean is) throws IndexOutOfBoundsException {
        mustExist(buyer, BUYERS);
        return buyers.line.swap(buyer, is ? 1 : 0) == 1;
    }

    // ---- boxes, sales

    public int land(int boat, int kind, int size, int fresh, int kilos, int real)
            throws IndexOutOfBoundsException, IllegalArgumentException, IllegalStateException {
        mustExist(boat, BOATS);
        mustExist(kind, KINDS);
        mustBeIn(size, 0, SIZES - 1);
        mustBeIn(fresh, 1, FRESHEST);
        mustBeIn(kilos, 1, MOST_BOX_KILOS);
        mustBeIn(real, 1, MOST_BOX_KILOS);
        mustHold(boxes.count < MOST_BOXES);
        boats.addLanded(boat, kind, kilos);
        int state = boats.isAboveQuota(boat, kind) ? SEIZED : LANDED;
        return boxes.add(boat, Boxes.rankOf(kind, size, fresh), kilos, real, state);
    }

    public int open() throws IllegalStateException {
        mustHold(!isOpen && boxes.countWaiting() > 0);
        isOpen = true;
        countWaitingBoxes();
        offerBoats(true);
        offerBoats(false);
        for (int hall = 0; hall < HALLS; hall++) {
            clocks.lotsLeft.put(hall, lots.countIn(hall));
            bringToClock(hall, lots.nextIn(hall, NONE));
            beginRound(hall);
        }
        return lots.count;
    }

    public int end() throws IllegalStateException {
        mustHold(isOpen);
        int withdrawn = 0;
        for (int lot = 0; lot < lots.count; lot++) {
            withdrawn += withdrawRest(lot);
        }
        for (int hall = 0; hall < HALLS; hall++) {
            clocks.lotsLeft.put(hall, 0);
            bringToClock(hall, NONE);
            beginRound(hall);
        }
        lots.clear();
        boxes.lot.fill(NONE);
        isOpen = false;
        day++;
        return withdrawn;
    }

    public int press(int buyer, int hall) throws IndexOutOfBoundsException, IllegalStateException {
        mustExist(buyer, BUYERS);
        mustExist(hall, HALLS);
        mustHold(clocks.state.at(hall) == FALLING && clocks.power.at(hall) == 1);
        mustHold(buyers.line.at(buyer) == 1 && !presses.isMade(hall, buyer));
        int price = clocks.price.at(hall);
        presses.make(hall, buyer, price, now, now + buyers.delay.at(buyer));
        return price;
    }

    public int take(int buyer, int hall, int many) throws IndexOutOfBoundsException, IllegalStateException {
        mustExist(buyer, BUYERS);
        mustExist(hall, HALLS);
        mustHold(clocks.state.at(hall) == TAKING && clocks.power.at(hall) == 1);
        mustHold(clocks.winner.at(hall) == buyer);
        mustHold(many >= 1 && many <= lots.left(clocks.lot.at(hall)));
        int cost = costOfFirst(hall, many);
        mustHold(cost <= buyers.leftOf(buyer));
        sellFirst(hall, many);
        goOn(hall);
        return cost;
    }

    public int pass(int ticks) throws IllegalArgumentException, IllegalStateException {
        mustBeIn(ticks, 1, MOST_PASSED);
        mustHold(now + ticks <= LAST_TICK);
        for (int tick = 0; tick < ticks; tick++) {
            now++;
            tickHalls();
            sendLorries();
        }
        return now;
    }

    // ---- lorries, money

    public int lorry(int buyer, int tick, int many)
            throws IndexOutOfBoundsException, IllegalArgumentException, IllegalStateException {
        mustExist(buyer, BUYERS);
        mustBeIn(tick, now + 1, LAST_TICK);
        mustBeIn(many, 1, MOST_LOADED);
        mustHold(lorries.count < MOST_LORRIES);
        return lorries.add(buyer, tick, many);
    }

    public int pay(int buyer, int cents) throws IndexOutOfBoundsException, IllegalArgumentException {
        mustExist(buyer, BUYERS);
        mustBeIn(cents, 1, MOST_CENTS);
        int paid = Math.max(0, Math.min(cents, buyers.owed.at(buyer)));
        buyers.owed.add(buyer, -paid);
        return paid;
    }

    public int claim(int buyer, int box) throws IndexOutOfBoundsException, IllegalStateException {
        mustExist(buyer, BUYERS);
        mustExist(box, boxes.count);
        mustHold(boxes.buyer.at(box) == buyer && boxes.isClaimed.at(box) == 0);
        mustHold(now - boxes.soldTick.at(box) <= TICKS_TO_CLAIM);
        int cents = boxes.centsLacking(box);
        boxes.isClaimed.put(box, 1);
        buyers.owed.add(buyer, -cents);
        boats.account.add(boxes.boat.at(box), -cents);
        return cents;
    }

    public int settle(int boat, int costs, int part) throws IndexOutOfBoundsException, IllegalArgumentException {
        mustExist(boat, BOATS);
        mustBeIn(costs, 0, MOST_COSTS);
        mustBeIn(part, 0, 100);
        int account = boats.account.swap(boat, 0);
        int dues = Math.max(0, account) * 3 / 100;
        long net = account - dues - costs;
        // hundredths of a rich account go beyond an int
        return (int) (Math.max(0L, net) * part / 100);
    }

    // ---- what there is; nothing from here on changes anything

    public int now() {
        return now;
    }

    public int day() {
        return day;
    }

    public boolean isOpen() {
        return isOpen;
    }

    public int told(int box, int what) throws IndexOutOfBoundsException, IllegalArgumentException {
        mustExist(box, boxes.count);
        mustBeIn(what, 0, 4);
        switch (what) {
            case 0: return boxes.state.at(box);
            case 1: return Boxes.freshOf(boxes.rank.at(box));
            case 2: return boxes.buyer.at(box);
            case 3: return boxes.price.at(box);
            default: return boxes.lot.at(box);
        }
    }

    public int lot(int lot, int what) throws IndexOutOfBoundsException, IllegalArgumentException {
        mustExist(lot, lots.count);
        mustBeIn(what, 0, 5);
        switch (what) {
            case 0: return lots.boat.at(lot);
            case 1: return Boxes.kindOf(lots.rank.at(lot));
            case 2: return Boxes.sizeOf(lots.rank.at(lot));
            case 3: return Boxes.freshOf(lots.rank.at(lot));
            case 4: return lots.hall.at(lot);
            default: return lots.left(lot);
        }
    }

    public int hall(int hall, int what) throws IndexOutOfBoundsException, IllegalArgumentException {
        mustExist(hall, HALLS);
        mustBeIn(what, 0, 4);
        switch (what) {
            case 0: return clocks.state.at(hall);
            case 1: return clocks.lot.at(hall);
            case 2: return clocks.price.at(hall);
            case 3: return clocks.winner.at(hall);
            default: return clocks.lotsLeft.at(hall);
        }
    }

    public int account(int buyer, int what) throws IndexOutOfBoundsException, IllegalArgumentException {
        mustExist(buyer, BUYERS);
        mustBeIn(what, 0, 2);
        switch (what) {
            case 0: return buyers.guarantee.at(buyer);
            case 1: return buyers.owed.at(buyer);
            default: return buyers.bought.at(buyer);
        }
    }

    public int ship(int boat, int what) throws IndexOutOfBoundsException, IllegalArgumentException {
        mustExist(boat, BOATS);
        mustBeIn(what, 0, 2);
        switch (what) {
            case 0: return boats.account.at(boat);
            case 1: return boats.aid.at(boat);
            default: return boats.landed.at(boat);
        }
    }

    public int kilos(int what) throws IllegalArgumentException {
        mustBeIn(what, LANDED_AT_ALL, IN_THE_HOUSE);
        return boxes.sums.at(what);
    }

    public int kilosAnew(int what) throws IllegalArgumentException {
        mustBeIn(what, LANDED_AT_ALL, IN_THE_HOUSE);
        int sum = 0;
        for (int box = 0; box < boxes.count; box++) {
            if (what == LANDED_AT_ALL || Boxes.sumOf(boxes.state.at(box)) == what) {
                sum += boxes.kilos.at(box);
            }
        }
        return sum;
    }

    public int average(int kind, int day) throws IndexOutOfBoundsException, IllegalArgumentException {
        mustExist(kind, KINDS);
        mustBeIn(day, 0, this.day);
        int cost = 0;
        int kilos = 0;
        for (int box = 0; box < boxes.count; box++) {
            if (boxes.soldDay.at(box) == day && Boxes.kindOf(boxes.rank.at(box)) == kind) {
                cost += boxes.kilos.at(box) * boxes.price.at(box);
                kilos += boxes.kilos.at(box);
            }
        }
        return kilos > 0 ? cost / kilos : NONE;
    }

    public int loaded(int lorry) throws IndexOutOfBoundsException {
        mustExist(lorry, lorries.count);
        return lorries.loaded.at(lorry);
    }

    // ---- what the calls above ask for

    private static void mustExist(int number, int count) {
        if (number < 0 || number >= count) {
            throw new IndexOutOfBoundsException("there is no such one");
        }
    }

    private static void mustBeIn(int value, int least, int most) {
        if (value < least || value > most) {
            throw new IllegalArgumentException("out of range");
        }
    }

    private static void mustHold(boolean holds) {
        if (!holds) {
            throw new IllegalStateException("not as things stand");
        }
    }

    // ---- opening a sale

    private void countWaitingBoxes() {
        for (int box = 0; box < boxes.count; box++) {
            if (boxes.isWaiting(box)) {
                boats.waiting.add(boxes.boat.at(box), 1);
            }
        }
    }

    private void offerBoats(boolean isDay) {
        for (int left = boats.countWaiting(isDay); left > 0; left--) {
            drawn = drawn * 1103515245 + 12345;
            offerBoat(boats.findWaiting(isDay, (drawn >>> 16) % left));
        }
    }

    private void offerBoat(int boat) {
        boats.waiting.put(boat, 0);
        lots.alike.fill(0);
        for (int box = 0; box < boxes.count; box++) {
            if (boxes.boat.at(box) == boat && boxes.isWaiting(box)) {
                lots.alike.add(boxes.rank.at(box), 1);
            }
        }
        for (int rank = 0; rank < Boxes.RANKS; rank++) {
            if (lots.alike.at(rank) > 0) {
                lots.add(boat, rank, kinds.hall.at(Boxes.kindOf(rank)));
            }
        }
        for (int box = 0; box < boxes.count; box++) {
            if (boxes.boat.at(box) == boat && boxes.isWaiting(box)) {
                boxes.lot.put(box, lots.addBox(boxes.rank.at(box), box));
                boxes.move(box, OFFERED);
            }
        }
    }

    // ---- clocks

    private void tickHalls() {
        for (int hall = 0; hall < HALLS; hall++) {
            if (clocks.power.at(hall) == 0) {
                continue;
            }
            switch (clocks.state.at(hall)) {
                case FALLING: tickFalling(hall); break;
                case STANDING: tickStanding(hall); break;
                case TAKING: tickTaking(hall); break;
                default: break;
            }
        }
    }

    private void tickFalling(int hall) {
        if (presses.isAnyHeard(hall, now)) {
            clocks.state.put(hall, STANDING);
            clocks.until.put(hall, now + buyers.greatestDelay());
            return;
        }
        clocks.price.add(hall, -clocks.step.at(hall));
        int lot = clocks.lot.at(hall);
        if (clocks.price.at(hall) < kinds.minimumOf(lots.rank.at(lot))) {
            withdrawRest(lot);
            goOn(hall);
        }
    }

    private void tickStanding(int hall) {
        if (now < clocks.until.at(hall)) {
            return;
        }
        int winner = findWinner(hall);
        if (winner == NONE) {
            beginRound(hall);
            return;
        }
        clocks.state.put(hall, TAKING);
        clocks.winner.put(hall, winner);
        clocks.price.put(hall, presses.priceOf(hall, winner));
        clocks.until.put(hall, now + TICKS_TO_TAKE);
    }

    private void tickTaking(int hall) {
        if (now < clocks.until.at(hall)) {
            return;
        }
        if (costOfFirst(hall, 1) <= buyers.leftOf(clocks.winner.at(hall))) {
            sellFirst(hall, 1);
        }
        goOn(hall);
    }

    private int findWinner(int hall) {
        int kilos = boxes.kilos.at(lots.boxAt(clocks.lot.at(hall), 0));
        int best = NONE;
        for (int buyer = 0; buyer < BUYERS; buyer++) {
            if (!presses.isHeard(hall, buyer, now)) {
                continue;
            }
            if (kilos * presses.priceOf(hall, buyer) > buyers.leftOf(buyer)) {
                continue;
            }
            if (best == NONE || presses.isAhead(hall, buyer, best)) {
                best = buyer;
            }
        }
        return best;
    }

    private void bringToClock(int hall, int lot) {
        clocks.lot.put(hall, lot);
        clocks.price.put(hall, lot == NONE ? 0 : kinds.start.at(Boxes.kindOf(lots.rank.at(lot))));
    }

    private void beginRound(int hall) {
        clocks.state.put(hall, clocks.lot.at(hall) == NONE ? EMPTY : FALLING);
        clocks.winner.put(hall, NONE);
        presses.forget(hall);
    }

    private void goOn(int hall) {
        int lot = clocks.lot.at(hall);
        if (lots.left(lot) == 0) {
            clocks.lotsLeft.add(hall, -1);
            bringToClock(hall, lots.nextIn(hall, lot));
        }
        beginRound(hall);
    }

    // ---- boxes that are sold, withdrawn or fetched

    private int costOfFirst(int hall, int many) {
        int lot = clocks.lot.at(hall);
        int kilos = 0;
        for (int place = 0; place < many; place++) {
            kilos += boxes.kilos.at(lots.boxAt(lot, place));
        }
        return kilos * clocks.price.at(hall);
    }

    private void sellFirst(int hall, int many) {
        int lot = clocks.lot.at(hall);
        int buyer = clocks.winner.at(hall);
        int price = clocks.price.at(hall);
        for (int place = 0; place < many; place++) {
            int box = lots.boxAt(lot, place);
            int cost = boxes.kilos.at(box) * price;
            boxes.sell(box, buyer, price);
            boxes.soldTick.put(box, now);
            boxes.soldDay.put(box, day);
            buyers.owed.add(buyer, cost);
            buyers.bought.add(buyer, 1);
            boats.account.add(boxes.boat.at(box), cost);
        }
        lots.first.add(lot, many);
    }

    private int withdrawRest(int lot) {
        int many = lots.left(lot);
        for (int place = 0; place < many; place++) {
            withdraw(lots.boxAt(lot, place));
        }
        lots.first.add(lot, many);
        return many;
    }

    private void withdraw(int box) {
        int boat = boxes.boat.at(box);
        int kilos = boxes.kilos.at(box);
        if (boats.aid.at(boat) >= kilos) {
            boats.aid.add(boat, -kilos);
            boats.account.add(boat, kilos * MEAL_CENTS);
            boxes.move(box, MEAL);
        } else if (boxes.canBeCarried(box)) {
            boxes.move(box, CARRIED);
            boxes.age(box);
        } else {
            boxes.move(box, ROTTEN);
        }
    }

    private void sendLorries() {
        for (int lorry = 0; lorry < lorries.count; lorry++) {
            if (lorries.tick.at(lorry) == now) {
                fetch(lorry);
            }
        }
    }

    private void fetch(int lorry) {
        int many = lorries.many.at(lorry);
        int fetched = 0;
        for (int box = 0; box < boxes.count && fetched < many; box++) {
            if (boxes.state.at(box) == SOLD && boxes.buyer.at(box) == lorries.buyer.at(lorry)) {
                boxes.move(box, GONE);
                fetched++;
            }
        }
        lorries.loaded.put(lorry, fetched);
    }

    /** Numbers by place. A place is looked at here, once for all, before it is used. */
    private static final class Row {
        private final int[] cells;

        Row(int length, int value) {
            cells = new int[length < 0 ? 0 : length];
            for (int place = 0; place < cells.length; place++) {
                cells[place] = value;
            }
        }

        int at(int place) {
            return place >= 0 && place < cells.length ? cells[place] : 0;
        }

        void put(int place, int value) {
            if (place >= 0 && place < cells.length) {
                cells[place] = value;
            }
        }

        void add(int place, int amount) {
            if (place >= 0 && place < cells.length) {
                cells[place] += amount;
            }
        }

        int swap(int place, int value) {
            int before = at(place);
            put(place, value);
            return before;
        }

        void fill(int value) {
            for (int place = 0; place < cells.length; place++) {
                cells[place] = value;
            }
        }
    }

    private static final class Boats {
        final Row quota = new Row(BOATS * KINDS, 10000);
        final Row landedOfKind = new Row(BOATS * KINDS, 0);
        final Row landed = new Row(BOATS, 0);
        final Row aid = new Row(BOATS, 0);
        final Row isDay = new Row(BOATS, 0);
        final Row account = new Row(BOATS, 0);
        final Row waiting = new Row(BOATS, 0);

        static int placeOf(int boat, int kind) {
            return boat * KINDS + kind;
        }

        void addLanded(int boat, int kind, int kilos) {
            landed.add(boat, kilos);
            landedOfKind.add(placeOf(boat, kind), kilos);
        }

        boolean isAboveQuota(int boat, int kind) {
            int most = quota.at(placeOf(boat, kind));
            return landedOfKind.at(placeOf(boat, kind)) > most + most / 10;
        }

        boolean waits(int boat, boolean asDayBoat) {
            return waiting.at(boat) > 0 && (isDay.at(boat) == 1) == asDayBoat;
        }

        int countWaiting(boolean asDayBoat) {
            int count = 0;
            for (int boat = 0; boat < BOATS; boat++) {
                if (waits(boat, asDayBoat)) {
                    count++;
                }
            }
            return count;
        }

        int findWaiting(boolean asDayBoat, int place) {
            int ahead = place;
            for (int boat = 0; boat < BOATS; boat++) {
                if (!waits(boat, asDayBoat)) {
                    continue;
                }
                if (ahead == 0) {
                    return boat;
                }
                ahead--;
            }
            return NONE;
        }
    }

    private static final class Kinds {
        final Row start = new Row(KINDS, 1000);
        final Row minimum = new Row(KINDS, 100);
        final Row hall = new Row(KINDS, 0);

        Kinds() {
            for (int kind = 0; kind < KINDS; kind++) {
                hall.put(kind, kind % HALLS);
            }
        }

        int minimumOf(int rank) {
            return minimum.at(Boxes.kindOf(rank)) * (10 + Boxes.sizeOf(rank)) / 10;
        }
    }

    private static final class Buyers {
        final Row guarantee = new Row(BUYERS, 0);
        final Row delay = new Row(BUYERS, 1);
        final Row owed = new Row(BUYERS, 0);
        final Row bought = new Row(BUYERS, 0);
        final Row line = new Row(BUYERS, 1);

        int leftOf(int buyer) {
            return guarantee.at(buyer) - owed.at(buyer);
        }

        int greatestDelay() {
            int greatest = 0;
            for (int buyer = 0; buyer < BUYERS; buyer++) {
                greatest = Math.max(greatest, delay.at(buyer));
            }
            return greatest;
        }
    }

    /** Boxes; the rank of one tells its kind, size and freshness, in the order of a boat's lots. */
    private static final class Boxes {
        static final int RANKS = KINDS * SIZES * FRESHEST;

        final Row boat = new Row(MOST_BOXES, NONE);
        final Row rank = new Row(MOST_BOXES, 0);
        final Row kilos = new Row(MOST_BOXES, 0);
        final Row real = new Row(MOST_BOXES, 0);
        final Row state = new Row(MOST_BOXES, LANDED);
        final Row lot = new Row(MOST_BOXES, NONE);
        final Row buyer = new Row(MOST_BOXES, NONE);
        final Row price = new Row(MOST_BOXES, NONE);
        final Row soldTick = new Row(MOST_BOXES, NONE);
        final Row soldDay = new Row(MOST_BOXES, NONE);
        final Row wasCarried = new Row(MOST_BOXES, 0);
        final Row isClaimed = new Row(MOST_BOXES, 0);
        final Row sums = new Row(IN_THE_HOUSE + 1, 0);
        int count = 0;

        static int rankOf(int kind, int size, int fresh) {
            return (kind * SIZES + size) * FRESHEST + FRESHEST - fresh;
        }

        static int kindOf(int rank) {
            return rank / (SIZES * FRESHEST);
        }

        static int sizeOf(int rank) {
            return rank / FRESHEST % SIZES;
        }

        static int freshOf(int rank) {
            return FRESHEST - rank % FRESHEST;
        }

        static int sumOf(int state) {
            switch (state) {
                case SEIZED: return KILOS_SEIZED;
                case SOLD: case GONE: return KILOS_SOLD;
                case MEAL: return KILOS_MEAL;
                case ROTTEN: return KILOS_ROTTEN;
                default: return IN_THE_HOUSE;
            }
        }

        int add(int itsBoat, int itsRank, int itsKilos, int itsReal, int itsState) {
            int box = count;
            count++;
            boat.put(box, itsBoat);
            rank.put(box, itsRank);
            kilos.put(box, itsKilos);
            real.put(box, itsReal);
            state.put(box, itsState);
            sums.add(LANDED_AT_ALL, itsKilos);
            sums.add(sumOf(itsState), itsKilos);
            return box;
        }

        boolean isWaiting(int box) {
            return state.at(box) == LANDED || state.at(box) == CARRIED;
        }

        int countWaiting() {
            int waiting = 0;
            for (int box = 0; box < count; box++) {
                if (isWaiting(box)) {
                    waiting++;
                }
            }
            return waiting;
        }

        void move(int box, int toState) {
            sums.add(sumOf(state.at(box)), -kilos.at(box));
            sums.add(sumOf(toState), kilos.at(box));
            state.put(box, toState);
        }

        void sell(int box, int toBuyer, int atPrice) {
            move(box, SOLD);
            buyer.put(box, toBuyer);
            price.put(box, atPrice);
        }

        boolean canBeCarried(int box) {
            return wasCarried.at(box) == 0 && freshOf(rank.at(box)) > 1;
        }

        void age(int box) {
            wasCarried.put(box, 1);
            rank.add(box, 1); // behind a rank stands the one that is less fresh by 1
        }

        int centsLacking(int box) {
            int lacks = kilos.at(box) - real.at(box);
            return lacks * 100 > 3 * kilos.at(box) ? lacks * price.at(box) : 0;
        }
    }

    /** Lots of the sale that is open. The boxes of each stand one behind the other, from first up to behind. */
    private static final class Lots {
        final Row boat = new Row(MOST_BOXES, NONE);
        final Row rank = new Row(MOST_BOXES, 0);
        final Row hall = new Row(MOST_BOXES, NONE);
        final Row first = new Row(MOST_BOXES, 0);
        final Row behind = new Row(MOST_BOXES, 0);
        final Row order = new Row(MOST_BOXES, NONE);
        // while a boat's boxes are offered: how many there are of a rank, and then their lot
        final Row alike = new Row(Boxes.RANKS, 0);
        int count = 0;
        private int reserved = 0;

        void clear() {
            count = 0;
            reserved = 0;
        }

        void add(int itsBoat, int itsRank, int itsHall) {
            boat.put(count, itsBoat);
            rank.put(count, itsRank);
            hall.put(count, itsHall);
            first.put(count, reserved);
            behind.put(count, reserved);
            reserved += alike.swap(itsRank, count);
            count++;
        }

        int addBox(int itsRank, int box) {
            int lot = alike.at(itsRank);
            order.put(behind.at(lot), box);
            behind.add(lot, 1);
            return lot;
        }

        int left(int lot) {
            return behind.at(lot) - first.at(lot);
        }

        int boxAt(int lot, int place) {
            return order.at(first.at(lot) + place);
        }

        int countIn(int inHall) {
            int many = 0;
            for (int lot = 0; lot < count; lot++) {
                if (hall.at(lot) == inHall) {
                    many++;
                }
            }
            return many;
        }

        int nextIn(int inHall, int lastLot) {
            for (int lot = lastLot + 1; lot < count; lot++) {
                if (hall.at(lot) == inHall) {
                    return lot;
                }
            }
            return NONE;
        }
    }

    private static final class Clocks {
        final Row state = new Row(HALLS, EMPTY);
        final Row lot = new Row(HALLS, NONE);
        final Row price = new Row(HALLS, 0);
        final Row winner = new Row(HALLS, NONE);
        final Row lotsLeft = new Row(HALLS, 0);
        final Row until = new Row(HALLS, 0);
        final Row step = new Row(HALLS, 10);
        final Row power = new Row(HALLS, 1);
    }

    /** The presses of the rounds that run, at most one of each buyer in each hall. */
    private static final class Presses {
        private final Row price = new Row(HALLS * BUYERS, 0);
        private final Row tick = new Row(HALLS * BUYERS, 0);
        private final Row comes = new Row(HALLS * BUYERS, NONE);

        private static int placeOf(int hall, int buyer) {
            return hall * BUYERS + buyer;
        }

        void make(int hall, int buyer, int itsPrice, int itsTick, int comesIn) {
            int place = placeOf(hall, buyer);
            price.put(place, itsPrice);
            tick.put(place, itsTick);
            comes.put(place, comesIn);
        }

        void forget(int hall) {
            for (int buyer = 0; buyer < BUYERS; buyer++) {
                comes.put(placeOf(hall, buyer), NONE);
            }
        }

        boolean isMade(int hall, int buyer) {
            return comes.at(placeOf(hall, buyer)) != NONE;
        }

        boolean isHeard(int hall, int buyer, int by) {
            return isMade(hall, buyer) && comes.at(placeOf(hall, buyer)) <= by;
        }

        boolean isAnyHeard(int hall, int by) {
            for (int buyer = 0; buyer < BUYERS; buyer++) {
                if (isHeard(hall, buyer, by)) {
                    return true;
                }
            }
            return false;
        }

        int priceOf(int hall, int buyer) {
            return price.at(placeOf(hall, buyer));
        }

        boolean isAhead(int hall, int buyer, int other) {
            int more = priceOf(hall, buyer) - priceOf(hall, other);
            int later = tick.at(placeOf(hall, buyer)) - tick.at(placeOf(hall, other));
            return more > 0 || more == 0 && later < 0;
        }
    }

    private static final class Lorries {
        final Row buyer = new Row(MOST_LORRIES, NONE);
        final Row tick = new Row(MOST_LORRIES, NONE);
        final Row many = new Row(MOST_LORRIES, 0);
        final Row loaded = new Row(MOST_LORRIES, NONE);
        int count = 0;

        int add(int itsBuyer, int itsTick, int howMany) {
            int lorry = count;
            count++;
            buyer.put(lorry, itsBuyer);
            tick.put(lorry, itsTick);
            many.put(lorry, howMany);
            return lorry;
        }
    }
}
