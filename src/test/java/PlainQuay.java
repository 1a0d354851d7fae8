import java.util.ArrayList;
import java.util.List;

/** The document once more, told as plainly as can be with objects and lists; RunsTest holds Fishclock against it. */
final class PlainQuay {
    private static final class Box {
        int number, boat, kind, size, fresh, kilos, real;
        int state;
        boolean carriedOnce, claimed;
        int buyer = -1, price = -1, tick, day = -1;
        Lot lot;
    }

    private static final class Lot {
        int number, boat, kind, size, fresh, hall;
        final List<Box> left = new ArrayList<>();
    }

    private static final class Press {
        int buyer, price, made, comes;
        boolean heard;
    }

    private static final class Hall {
        int state, price, step = 10, standsUntil, wonIn;
        boolean power = true;
        final List<Lot> lots = new ArrayList<>();
        List<Press> presses = new ArrayList<>();
        Press winner;
    }

    private static final class Lorry {
        int buyer, tick, many, loaded = -1;
    }

    private final int[][] quota = new int[8][4];
    private final int[] aid = new int[8];
    private final boolean[] dayBoat = new boolean[8];
    private final int[] boatAccount = new int[8];
    private final int[] start = {1000, 1000, 1000, 1000};
    private final int[] minimum = {100, 100, 100, 100};
    private final int[] hallOfKind = {0, 1, 2, 0};
    private final int[] guarantee = new int[8];
    private final int[] delay = {1, 1, 1, 1, 1, 1, 1, 1};
    private final int[] owes = new int[8];
    private final boolean[] line = {true, true, true, true, true, true, true, true};
    private final List<Box> boxes = new ArrayList<>();
    private final List<Lorry> lorries = new ArrayList<>();
    private final Hall[] halls = {new Hall(), new Hall(), new Hall()};
    private List<Lot> lots = null;
    private int now = 0;
    private int day = 0;
    private int x = 1;

    PlainQuay() {
        for (int[] row : quota) {
            java.util.Arrays.fill(row, 10000);
        }
    }

    private static void index(int number, int count) {
        if (number < 0 || number >= count) {
            throw new IndexOutOfBoundsException();
        }
    }

    private static void range(int value, int least, int most) {
        if (value < least || value > most) {
            throw new IllegalArgumentException();
        }
    }

    private static void state(boolean holds) {
        if (!holds) {
            throw new IllegalStateException();
        }
    }

    int countBoxes() {
        return boxes.size();
    }

    int countLots() {
        return lots == null ? 0 : lots.size();
    }

    int countLorries() {
        return lorries.size();
    }

    int quota(int boat, int kind, int kilos) {
        index(boat, 8);
        index(kind, 4);
        range(kilos, 0, 100000);
        int was = quota[boat][kind];
        quota[boat][kind] = kilos;
        return was;
    }

    int aid(int boat, int kilos, boolean isDay) {
        index(boat, 8);
        range(kilos, 0, 100000);
        int was = aid[boat];
        aid[boat] = kilos;
        dayBoat[boat] = isDay;
        return was;
    }

    int kind(int kind, int from, int least, int hall) {
        index(kind, 4);
        index(hall, 3);
        range(from, 1, 10000);
        range(least, 1, 10000);
        start[kind] = from;
        minimum[kind] = least;
        hallOfKind[kind] = hall;
        return 0;
    }

    int step(int hall, int cents) {
        index(hall, 3);
        range(cents, 1, 500);
        int was = halls[hall].step;
        halls[hall].step = cents;
        return was;
    }

    int buyer(int buyer, int most, int ticks) {
        index(buyer, 8);
        range(most, 0, 100000000);
        range(ticks, 1, 9);
        int was = guarantee[buyer];
        guarantee[buyer] = most;
        delay[buyer] = ticks;
        return was;
    }

    int draw(int to) {
        int was = x;
        x = to;
        return was;
    }

    int power(int hall, boolean is) {
        index(hall, 3);
        boolean was = halls[hall].power;
        halls[hall].power = is;
        return was ? 1 : 0;
    }

    int line(int buyer, boolean is) {
        index(buyer, 8);
        boolean was = line[buyer];
        line[buyer] = is;
        return was ? 1 : 0;
    }

    int land(int boat, int kind, int size, int fresh, int kilos, int real) {
        index(boat, 8);
        index(kind, 4);
        range(size, 0, 2);
        range(fresh, 1, 9);
        range(kilos, 1, 100);
        range(real, 1, 100);
        state(boxes.size() < 150);
        Box box = new Box();
        box.number = boxes.size();
        box.boat = boat;
        box.kind = kind;
        box.size = size;
        box.fresh = fresh;
        box.kilos = kilos;
        box.real = real;
        boxes.add(box);
        int all = 0;
        for (Box other : boxes) {
            all += other.boat == boat && other.kind == kind ? other.kilos : 0;
        }
        box.state = all > quota[boat][kind] + quota[boat][kind] / 10 ? 1 : 0;
        return box.number;
    }

    int open() {
        List<Integer> dayBoats = new ArrayList<>();
        List<Integer> others = new ArrayList<>();
        for (int boat = 0; boat < 8; boat++) {
            boolean hasSome = false;
            for (Box box : boxes) {
                hasSome |= box.boat == boat && (box.state == 0 || box.state == 6);
            }
            if (hasSome) {
                (dayBoat[boat] ? dayBoats : others).add(boat);
            }
        }
        state(lots == null && dayBoats.size() + others.size() > 0);
        for (Box box : boxes) {
            box.lot = null;
        }
        lots = new ArrayList<>();
        drawAll(dayBoats);
        drawAll(others);
        for (Hall hall : halls) {
            hall.lots.clear();
        }
        for (Lot lot : lots) {
            halls[lot.hall].lots.add(lot);
        }
        for (Hall hall : halls) {
            toClock(hall);
        }
        return lots.size();
    }

    private void drawAll(List<Integer> boats) {
        while (!boats.isEmpty()) {
            x = x * 1103515245 + 12345;
            int boat = boats.remove((x >>> 16) % boats.size());
            for (int kind = 0; kind < 4; kind++) {
                for (int size = 0; size < 3; size++) {
                    for (int fresh = 9; fresh > 0; fresh--) {
                        makeLot(boat, kind, size, fresh);
                    }
                }
            }
        }
    }

    private void makeLot(int boat, int kind, int size, int fresh) {
        Lot lot = new Lot();
        for (Box box : boxes) {
            boolean waits = box.state == 0 || box.state == 6;
            if (waits && box.boat == boat && box.kind == kind && box.size == size && box.fresh == fresh) {
                lot.left.add(box);
                box.lot = lot;
                box.state = 2;
            }
        }
        if (lot.left.isEmpty()) {
            return;
        }
        lot.number = lots.size();
        lot.boat = boat;
        lot.kind = kind;
        lot.size = size;
        lot.fresh = fresh;
        lot.hall = hallOfKind[kind];
        lots.add(lot);
    }

    private void toClock(Hall hall) {
        hall.winner = null;
        hall.presses = new ArrayList<>();
        hall.state = hall.lots.isEmpty() ? 0 : 1;
        hall.price = hall.lots.isEmpty() ? 0 : start[hall.lots.get(0).kind];
    }

    private void newRound(Hall hall, int price) {
        hall.winner = null;
        hall.presses = new ArrayList<>();
        if (hall.lots.get(0).left.isEmpty()) {
            hall.lots.remove(0);
            toClock(hall);
        } else {
            hall.state = 1;
            hall.price = price;
        }
    }

    int end() {
        state(lots != null);
        int count = 0;
        for (Lot lot : lots) {
            count += withdraw(lot);
        }
        for (Hall hall : halls) {
            hall.lots.clear();
            toClock(hall);
        }
        lots = null;
        day++;
        return count;
    }

    private int withdraw(Lot lot) {
        int count = lot.left.size();
        for (Box box : lot.left) {
            if (aid[box.boat] >= box.kilos) {
                box.state = 5;
                aid[box.boat] -= box.kilos;
                boatAccount[box.boat] += 20 * box.kilos;
            } else if (!box.carriedOnce && box.fresh > 1) {
                box.state = 6;
                box.carriedOnce = true;
                box.fresh--;
            } else {
                box.state = 7;
            }
        }
        lot.left.clear();
        return count;
    }

    int press(int buyer, int at) {
        index(buyer, 8);
        index(at, 3);
        Hall hall = halls[at];
        state(hall.state == 1 && hall.power && line[buyer]);
        for (Press other : hall.presses) {
            state(other.buyer != buyer);
        }
        Press press = new Press();
        press.buyer = buyer;
        press.price = hall.price;
        press.made = now;
        press.comes = now + delay[buyer];
        hall.presses.add(press);
        return press.price;
    }

    int take(int buyer, int at, int many) {
        index(buyer, 8);
        index(at, 3);
        Hall hall = halls[at];
        state(hall.state == 3 && hall.power && hall.winner.buyer == buyer);
        state(many >= 1 && many <= hall.lots.get(0).left.size());
        int cost = 0;
        for (int i = 0; i < many; i++) {
            cost += hall.lots.get(0).left.get(i).kilos * hall.winner.price;
        }
        state(cost <= guarantee[buyer] - owes[buyer]);
        sell(hall, many);
        return cost;
    }

    private void sell(Hall hall, int many) {
        Press winner = hall.winner;
        for (int i = 0; i < many; i++) {
            Box box = hall.lots.get(0).left.remove(0);
            box.state = 3;
            box.buyer = winner.buyer;
            box.price = winner.price;
            box.tick = now;
            box.day = day;
            owes[winner.buyer] += box.kilos * box.price;
            boatAccount[box.boat] += box.kilos * box.price;
        }
        newRound(hall, winner.price);
    }

    int pass(int ticks) {
        range(ticks, 1, 500);
        state(now + ticks <= 100000);
        for (int i = 0; i < ticks; i++) {
            now++;
            for (Hall hall : halls) {
                if (hall.power && hall.state != 0) {
                    tick(hall);
                }
            }
            for (Lorry lorry : lorries) {
                leave(lorry);
            }
        }
        return now;
    }

    private void tick(Hall hall) {
        boolean some = false;
        for (Press press : hall.presses) {
            press.heard |= press.comes <= now;
            some |= press.heard;
        }
        Lot lot = hall.lots.get(0);
        if (hall.state == 1 && some) {
            hall.state = 2;
            hall.standsUntil = now;
            for (int ticks : delay) {
                hall.standsUntil = Math.max(hall.standsUntil, now + ticks);
            }
        } else if (hall.state == 1) {
            hall.price -= hall.step;
            if (hall.price < minimum[lot.kind] * (10 + lot.size) / 10) {
                withdraw(lot);
                newRound(hall, 0);
            }
        } else if (hall.state == 2 && now >= hall.standsUntil) {
            decide(hall);
        } else if (hall.state == 3 && now >= hall.wonIn + 3) {
            int cost = lot.left.get(0).kilos * hall.winner.price;
            sell(hall, cost <= guarantee[hall.winner.buyer] - owes[hall.winner.buyer] ? 1 : 0);
        }
    }

    private void decide(Hall hall) {
        Press best = null;
        for (Press press : hall.presses) {
            int cost = hall.lots.get(0).left.get(0).kilos * press.price;
            if (press.heard && cost <= guarantee[press.buyer] - owes[press.buyer]) {
                best = best == null || isBetter(press, best) ? press : best;
            }
        }
        if (best == null) {
            newRound(hall, hall.price);
            return;
        }
        hall.state = 3;
        hall.winner = best;
        hall.price = best.price;
        hall.wonIn = now;
    }

    private static boolean isBetter(Press one, Press other) {
        if (one.price != other.price) {
            return one.price > other.price;
        }
        return one.made != other.made ? one.made < other.made : one.buyer < other.buyer;
    }

    private void leave(Lorry lorry) {
        if (lorry.tick != now) {
            return;
        }
        lorry.loaded = 0;
        for (Box box : boxes) {
            if (box.state == 3 && box.buyer == lorry.buyer && lorry.loaded < lorry.many) {
                box.state = 4;
                lorry.loaded++;
            }
        }
    }

    int lorry(int buyer, int tick, int many) {
        index(buyer, 8);
        range(tick, now + 1, 100000);
        range(many, 1, 50);
        state(lorries.size() < 20);
        Lorry lorry = new Lorry();
        lorry.buyer = buyer;
        lorry.tick = tick;
        lorry.many = many;
        lorries.add(lorry);
        return lorries.size() - 1;
    }

    int pay(int buyer, int cents) {
        index(buyer, 8);
        range(cents, 1, 100000000);
        if (owes[buyer] <= 0) {
            return 0;
        }
        int paid = cents < owes[buyer] ? cents : owes[buyer];
        owes[buyer] -= paid;
        return paid;
    }

    int claim(int buyer, int number) {
        index(buyer, 8);
        index(number, boxes.size());
        Box box = boxes.get(number);
        state(box.buyer == buyer && !box.claimed && now <= box.tick + 240);
        box.claimed = true;
        int lacks = box.kilos - box.real;
        if (lacks * 100 <= 3 * box.kilos) {
            return 0;
        }
        owes[buyer] -= lacks * box.price;
        boatAccount[box.boat] -= lacks * box.price;
        return lacks * box.price;
    }

    int settle(int boat, int costs, int part) {
        index(boat, 8);
        range(costs, 0, 10000000);
        range(part, 0, 100);
        long has = boatAccount[boat];
        long net = has - (has < 0 ? 0 : has * 3 / 100) - costs;
        boatAccount[boat] = 0;
        return net < 0 ? 0 : (int) (net * part / 100);
    }

    int now() {
        return now;
    }

    int day() {
        return day;
    }

    int isOpen() {
        return lots != null ? 1 : 0;
    }

    int told(int number, int what) {
        index(number, boxes.size());
        range(what, 0, 4);
        Box box = boxes.get(number);
        int lot = lots == null || box.lot == null ? -1 : box.lot.number;
        return new int[] {box.state, box.fresh, box.buyer, box.price, lot}[what];
    }

    int lot(int number, int what) {
        index(number, countLots());
        range(what, 0, 5);
        Lot lot = lots.get(number);
        return new int[] {lot.boat, lot.kind, lot.size, lot.fresh, lot.hall, lot.left.size()}[what];
    }

    int hall(int number, int what) {
        index(number, 3);
        range(what, 0, 4);
        Hall hall = halls[number];
        int lot = hall.lots.isEmpty() ? -1 : hall.lots.get(0).number;
        int winner = hall.winner == null ? -1 : hall.winner.buyer;
        return new int[] {hall.state, lot, hall.price, winner, hall.lots.size()}[what];
    }

    int account(int buyer, int what) {
        index(buyer, 8);
        range(what, 0, 2);
        int bought = 0;
        for (Box box : boxes) {
            bought += box.buyer == buyer ? 1 : 0;
        }
        return new int[] {guarantee[buyer], owes[buyer], bought}[what];
    }

    int ship(int boat, int what) {
        index(boat, 8);
        range(what, 0, 2);
        int landed = 0;
        for (Box box : boxes) {
            landed += box.boat == boat ? box.kilos : 0;
        }
        return new int[] {boatAccount[boat], aid[boat], landed}[what];
    }

    int kilos(int what) {
        range(what, 0, 5);
        String[] states = {"01234567", "34", "5", "7", "1", "026"};
        int sum = 0;
        for (Box box : boxes) {
            sum += states[what].indexOf('0' + box.state) >= 0 ? box.kilos : 0;
        }
        return sum;
    }

    int average(int kind, int ofDay) {
        index(kind, 4);
        range(ofDay, 0, day);
        int cost = 0;
        int kilos = 0;
        for (Box box : boxes) {
            if (box.kind == kind && box.day == ofDay) {
                cost += box.kilos * box.price;
                kilos += box.kilos;
            }
        }
        return kilos == 0 ? -1 : cost / kilos;
    }

    int loaded(int lorry) {
        index(lorry, lorries.size());
        return lorries.get(lorry).loaded;
    }
}
