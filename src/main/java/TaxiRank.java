import java.util.ArrayList;

/**
 * The dispatcher of a taxi rank: offers orders to cabs, meters fares and keeps what drivers owe.
 * Times are in minutes; numbers of cabs, orders and zones go from 0.
 */
public final class TaxiRank {
    private static final int ZONES = 6;
    private static final int WAY_WITHIN = 5;
    private static final int WAY_AT_FIRST = 10;
    private static final int MAX_WAY = 120;

    private static final int MAX_CABS = 10;
    private static final int MAX_SEATS = 8;
    private static final int MAX_ORDERS = 60;

    private static final int OFF = 0;
    private static final int FREE = 1;
    private static final int CALL = 2;
    private static final int BUSY = 3;

    private static final int WAITING = 0;
    private static final int OFFERED = 1;
    private static final int ACCEPTED = 2;
    private static final int RIDING = 3;
    private static final int DONE = 4;
    private static final int CANCELLED = 5;

    private static final int LAST_TIME = 9999;
    private static final int MAX_TICK = 300;
    private static final int LOOK_AHEAD = 15;
    private static final int OFFER_MINUTES = 2;

    private static final int BASE_AT_FIRST = 4;
    private static final int RATE_AT_FIRST = 2;
    private static final int MAX_BASE = 100;
    private static final int MAX_RATE = 20;
    private static final int MAX_WAITING = 5;
    private static final int DAY = 1440;
    private static final int NIGHT_END = 360;
    private static final int KEPT_IN_100 = 80;

    private static final int LAST_COUNT = 7;
    private static final int CAB_DETAILS = 5;
    private static final int ORDER_DETAILS = 5;
    private static final int FARE_PARTS = 5;
    private static final int NONE = -1;
    private static final int DIGEST_START = 293;
    private static final int DIGEST_FACTOR = 31;

    /** A cab; its order is the offered one while it is FREE, the accepted one on CALL and BUSY. */
    private static final class Cab {
        final int number;
        final int seats;
        int zone;
        int state = OFF;
        int turn;
        int arrival;
        Order order;
        int kept;
        int due;

        Cab(int number, int seats, int zone) {
            this.number = number;
            this.seats = seats;
            this.zone = zone;
        }
    }

    /** An order; its cab is the one to which it is offered, or that accepted it. */
    private static final class Order {
        final int number;
        final int from;
        final int to;
        final int passengers;
        final int due;
        int state = WAITING;
        Cab cab;
        int offeredAt;
        int refusers;
        int begunAt = NONE;
        int doneAt = NONE;
        int base;
        int way;
        int waiting;
        int night;

        Order(int number, int from, int to, int passengers, int due) {
            this.number = number;
            this.from = from;
            this.to = to;
            this.passengers = passengers;
            this.due = due;
        }
    }

    private final int[] ways;
    private final ArrayList<Cab> cabs;
    private final ArrayList<Order> orders;
    private int time;
    private int baseRate;
    private int wayRate;
    private int turnsGiven;

    public TaxiRank() {
        ways = new int[ZONES * ZONES];
        for (int i = 0; i < ways.length; i++) {
            ways[i] = i / ZONES == i % ZONES ? WAY_WITHIN : WAY_AT_FIRST;
        }
        cabs = new ArrayList<Cab>();
        orders = new ArrayList<Order>();
        baseRate = BASE_AT_FIRST;
        wayRate = RATE_AT_FIRST;
    }

    // ---- zones, cabs and rates

    public int setWay(int a, int b, int minutes) throws IndexOutOfBoundsException, IllegalArgumentException {
        requireZone(a);
        requireZone(b);
        if (a == b) {
            throw new IllegalArgumentException("the zones are the same");
        }
        if (minutes < 1 || minutes > MAX_WAY) {
            throw new IllegalArgumentException("minutes is not 1 to 120");
        }
        int before = wayBetween(a, b);
        putWay(a, b, minutes);
        putWay(b, a, minutes);
        return before;
    }

    public int addCab(int seats, int zone) throws IllegalArgumentException, IllegalStateException {
        if (seats < 1 || seats > MAX_SEATS) {
            throw new IllegalArgumentException("seats is not 1 to 8");
        }
        if (!isZone(zone)) {
            throw new IllegalArgumentException("zone is not 0 to 5");
        }
        int number = cabs.size();
        if (number >= MAX_CABS) {
            throw new IllegalStateException("there are 10 cabs");
        }
        cabs.add(new Cab(number, seats, zone));
        return number;
    }

    public int start(int cab) throws IndexOutOfBoundsException, IllegalStateException {
        Cab starter = cabNumbered(cab);
        if (starter.state != OFF) {
            throw new IllegalStateException("the cab is not OFF");
        }
        joinQueue(starter);
        makeOffers();
        return placeOf(starter);
    }

    public int stop(int cab) throws IndexOutOfBoundsException, IllegalStateException {
        Cab stopper = cabNumbered(cab);
        if (stopper.state != FREE) {
            throw new IllegalStateException("the cab is not FREE");
        }
        turnDown(stopper);
        stopper.state = OFF;
        makeOffers();
        return stopper.zone;
    }

    public int setRates(int base, int rate) throws IllegalArgumentException {
        if (base < 0 || base > MAX_BASE) {
            throw new IllegalArgumentException("base is not 0 to 100");
        }
        if (rate < 0 || rate > MAX_RATE) {
            throw new IllegalArgumentException("rate is not 0 to 20");
        }
        int before = baseRate;
        baseRate = base;
        wayRate = rate;
        return before;
    }

    public int cab(int cab, int what) throws IndexOutOfBoundsException {
        Cab asked = cabNumbered(cab);
        if (what < 0 || what >= CAB_DETAILS) {
            throw new IndexOutOfBoundsException("what is not 0 to 4");
        }
        return cabDetail(asked, what);
    }

    // ---- orders

    public int order(int from, int to, int passengers, int due)
            throws IndexOutOfBoundsException, IllegalArgumentException, IllegalStateException {
        requireZone(from);
        requireZone(to);
        requirePassengers(passengers);
        if (due < time || due > LAST_TIME) {
            throw new IllegalArgumentException("due is less than now or greater than 9999");
        }
        int number = orders.size();
        if (number >= MAX_ORDERS) {
            throw new IllegalStateException("there are 60 orders");
        }
        orders.add(new Order(number, from, to, passengers, due));
        makeOffers();
        return number;
    }

    public int accept(int cab) throws IndexOutOfBoundsException, IllegalStateException {
        Cab driver = cabNumbered(cab);
        Order offered = offeredTo(driver);
        if (offered == null) {
            throw new IllegalStateException("nothing is offered to the cab");
        }
        int minutes = wayBetween(driver.zone, offered.from);
        driver.state = CALL;
        driver.arrival = Math.max(time + minutes, offered.due);
        offered.state = ACCEPTED;
        makeOffers();
        return minutes;
    }

    public int refuse(int cab) throws IndexOutOfBoundsException, IllegalStateException {
        Cab refuser = cabNumbered(cab);
        Order offered = offeredTo(refuser);
        if (offered == null) {
            throw new IllegalStateException("nothing is offered to the cab");
        }
        turnDown(refuser);
        makeOffers();
        return offered.number;
    }

    public int cancel(int order) throws IndexOutOfBoundsException, IllegalStateException {
        Order given = orderNumbered(order);
        int before = given.state;
        if (before != WAITING && before != OFFERED && before != ACCEPTED) {
            throw new IllegalStateException("the order is RIDING, DONE or CANCELLED");
        }
        releaseCab(given);
        given.state = CANCELLED;
        makeOffers();
        return before;
    }

    public int told(int order, int what) throws IndexOutOfBoundsException {
        Order asked = orderNumbered(order);
        if (what < 0 || what >= ORDER_DETAILS) {
            throw new IndexOutOfBoundsException("what is not 0 to 4");
        }
        return orderDetail(asked, what);
    }

    public int fare(int order, int part) throws IndexOutOfBoundsException {
        Order asked = orderNumbered(order);
        if (part < 0 || part >= FARE_PARTS) {
            throw new IndexOutOfBoundsException("part is not 0 to 4");
        }
        return farePart(asked, part);
    }

    // ---- time and money

    public int tick(int minutes) throws IllegalArgumentException {
        if (minutes < 1 || minutes > MAX_TICK) {
            throw new IllegalArgumentException("minutes is not 1 to 300");
        }
        if (minutes > LAST_TIME - time) {
            throw new IllegalArgumentException("the time would be greater than 9999");
        }
        int done = 0;
        for (int i = 0; i < minutes; i++) {
            done += passMinute();
        }
        return done;
    }

    public int now() {
        return time;
    }

    public int queue(int zone, int place) throws IndexOutOfBoundsException {
        requireZone(zone);
        if (place < 0) {
            throw new IndexOutOfBoundsException("place is less than 0");
        }
        return cabInQueue(zone, place);
    }

    public int count(int what) throws IndexOutOfBoundsException {
        if (what < 0 || what > LAST_COUNT) {
            throw new IndexOutOfBoundsException("what is not 0 to 7");
        }
        if (what == 0) {
            return cabs.size();
        }
        if (what == 1) {
            return orders.size();
        }
        return ordersInState(what - 2);
    }

    public int money(int cab, boolean isDue) throws IndexOutOfBoundsException {
        Cab asked = cabNumbered(cab);
        return isDue ? asked.due : asked.kept;
    }

    public int settle(int cab) throws IndexOutOfBoundsException {
        Cab payer = cabNumbered(cab);
        int paid = payer.due;
        payer.due = 0;
        return paid;
    }

    public double lateness() {
        int begun = 0;
        int late = 0;
        for (int i = 0; i < orders.size(); i++) {
            Order order = orders.get(i);
            if (order.begunAt != NONE) {
                begun++;
                late += order.begunAt - order.due;
            }
        }
        return begun == 0 ? 0 : (double) late / begun;
    }

    public int nearest(int zone, int passengers) throws IndexOutOfBoundsException, IllegalArgumentException {
        requireZone(zone);
        requirePassengers(passengers);
        int best = NONE;
        for (int i = 0; i < cabs.size(); i++) {
            Cab cab = cabs.get(i);
            if (isIdle(cab) && cab.seats >= passengers) {
                int minutes = wayBetween(cab.zone, zone);
                best = best == NONE ? minutes : Math.min(best, minutes);
            }
        }
        return best;
    }

    public long digest() {
        long d = mix(mix(DIGEST_START, time), cabs.size());
        for (int i = 0; i < cabs.size(); i++) {
            d = mixCab(d, cabs.get(i));
        }
        d = mix(d, orders.size());
        for (int i = 0; i < orders.size(); i++) {
            d = mixOrder(d, orders.get(i));
        }
        for (int zone = 0; zone < ZONES; zone++) {
            d = mixQueue(d, zone);
        }
        return d;
    }

    // ---- tests of arguments

    private static boolean isZone(int zone) {
        return zone >= 0 && zone < ZONES;
    }

    private static void requireZone(int zone) {
        if (!isZone(zone)) {
            throw new IndexOutOfBoundsException("no such zone");
        }
    }

    private static void requirePassengers(int passengers) {
        if (passengers < 1 || passengers > MAX_SEATS) {
            throw new IllegalArgumentException("passengers is not 1 to 8");
        }
    }

    private Cab cabNumbered(int number) {
        if (number < 0 || number >= cabs.size()) {
            throw new IndexOutOfBoundsException("no such cab");
        }
        return cabs.get(number);
    }

    private Order orderNumbered(int number) {
        if (number < 0 || number >= orders.size()) {
            throw new IndexOutOfBoundsException("no such order");
        }
        return orders.get(number);
    }

    // ---- ways

    private int wayBetween(int a, int b) {
        int at = a * ZONES + b;
        return at >= 0 && at < ways.length ? ways[at] : WAY_WITHIN;
    }

    private void putWay(int a, int b, int minutes) {
        int at = a * ZONES + b;
        if (at >= 0 && at < ways.length) {
            ways[at] = minutes;
        }
    }

    // ---- queues

    /** The queue of a zone is its FREE cabs in the order of the turns given here. */
    private void joinQueue(Cab cab) {
        cab.state = FREE;
        cab.turn = turnsGiven;
        turnsGiven++;
    }

    private static boolean isInQueue(Cab cab, int zone) {
        return cab.state == FREE && cab.zone == zone;
    }

    private int placeOf(Cab cab) {
        if (cab.state != FREE) {
            return NONE;
        }
        int place = 0;
        for (int i = 0; i < cabs.size(); i++) {
            Cab other = cabs.get(i);
            if (isInQueue(other, cab.zone) && other.turn < cab.turn) {
                place++;
            }
        }
        return place;
    }

    private int cabInQueue(int zone, int place) {
        for (int i = 0; i < cabs.size(); i++) {
            Cab cab = cabs.get(i);
            if (isInQueue(cab, zone) && placeOf(cab) == place) {
                return cab.number;
            }
        }
        return NONE;
    }

    // ---- offers

    private static boolean isIdle(Cab cab) {
        return cab.state == FREE && cab.order == null;
    }

    private static Order offeredTo(Cab cab) {
        return cab.state == FREE ? cab.order : null;
    }

    /** Each offer takes one idle cab, so there are never more offers to make than cabs. */
    private void makeOffers() {
        boolean goesOn = true;
        for (int i = 0; goesOn && i < cabs.size(); i++) {
            goesOn = makeNextOffer();
        }
    }

    private boolean makeNextOffer() {
        Order next = null;
        Cab chosen = null;
        for (int i = 0; i < orders.size(); i++) {
            Order order = orders.get(i);
            if (isLookedAt(order) && (next == null || order.due < next.due)) {
                Cab cab = cabFor(order);
                if (cab != null) {
                    next = order;
                    chosen = cab;
                }
            }
        }
        if (next == null || chosen == null) {
            return false;
        }
        next.state = OFFERED;
        next.cab = chosen;
        next.offeredAt = time;
        chosen.order = next;
        return true;
    }

    private boolean isLookedAt(Order order) {
        return order.state == WAITING && time >= order.due - LOOK_AHEAD;
    }

    private Cab cabFor(Order order) {
        Cab best = null;
        int bestRank = 0;
        for (int i = 0; i < cabs.size(); i++) {
            Cab cab = cabs.get(i);
            if (canBeOffered(order, cab)) {
                int rank = rankOfZone(cab.zone, order.from);
                if (best == null || rank < bestRank || rank == bestRank && cab.turn < best.turn) {
                    best = cab;
                    bestRank = rank;
                }
            }
        }
        return best;
    }

    /** The order's own zone comes first, however short the way from another zone is. */
    private int rankOfZone(int zone, int from) {
        return zone == from ? 0 : wayBetween(zone, from) * ZONES + zone;
    }

    private static boolean canBeOffered(Order order, Cab cab) {
        return isIdle(cab) && cab.seats >= order.passengers && (order.refusers & refuserBit(cab)) == 0;
    }

    private static int refuserBit(Cab cab) {
        return 1 << cab.number;
    }

    /** The cab refuses what is offered to it, if anything is. */
    private void turnDown(Cab cab) {
        Order offered = offeredTo(cab);
        if (offered == null) {
            return;
        }
        offered.refusers |= refuserBit(cab);
        offered.state = WAITING;
        offered.cab = null;
        cab.order = null;
        joinQueue(cab);
    }

    private void releaseCab(Order order) {
        Cab cab = order.cab;
        if (cab == null) {
            return;
        }
        order.cab = null;
        cab.order = null;
        if (cab.state == CALL) {
            joinQueue(cab);
        }
    }

    // ---- passing of time

    private int passMinute() {
        time++;
        refuseOldOffers();
        int done = bringCabsOn();
        makeOffers();
        return done;
    }

    private void refuseOldOffers() {
        for (int i = 0; i < cabs.size(); i++) {
            Cab cab = cabs.get(i);
            Order offered = offeredTo(cab);
            if (offered != null && time - offered.offeredAt >= OFFER_MINUTES) {
                turnDown(cab);
            }
        }
    }

    private int bringCabsOn() {
        int done = 0;
        for (int i = 0; i < cabs.size(); i++) {
            Cab cab = cabs.get(i);
            Order order = cab.order;
            if (order == null || time < cab.arrival) {
                continue;
            }
            if (cab.state == CALL) {
                beginRide(cab, order);
            } else if (cab.state == BUSY) {
                endRide(cab, order);
                done++;
            }
        }
        return done;
    }

    private void beginRide(Cab cab, Order order) {
        int minutes = wayBetween(order.from, order.to);
        cab.state = BUSY;
        cab.zone = order.from;
        cab.arrival = time + minutes;
        order.state = RIDING;
        order.begunAt = time;
        meterFare(order, minutes);
    }

    private void meterFare(Order order, int minutes) {
        order.base = baseRate;
        order.way = wayRate * minutes;
        order.waiting = -Math.min(time - order.due, MAX_WAITING);
        order.night = time % DAY < NIGHT_END ? (order.base + order.way) / 2 : 0;
    }

    private void endRide(Cab cab, Order order) {
        int whole = wholeFare(order);
        int kept = whole * KEPT_IN_100 / 100;
        cab.kept += kept;
        cab.due += whole - kept;
        cab.zone = order.to;
        cab.order = null;
        joinQueue(cab);
        order.state = DONE;
        order.doneAt = time;
    }

    // ---- details

    private int cabDetail(Cab cab, int what) {
        switch (what) {
            case 0:
                return cab.state;
            case 1:
                return cab.zone;
            case 2:
                return cab.seats;
            case 3:
                return cab.order == null ? NONE : cab.order.number;
            default:
                return placeOf(cab);
        }
    }

    private static int orderDetail(Order order, int what) {
        switch (what) {
            case 0:
                return order.state;
            case 1:
                return order.cab == null ? NONE : order.cab.number;
            case 2:
                return order.begunAt;
            case 3:
                return order.doneAt;
            default:
                return Integer.bitCount(order.refusers);
        }
    }

    private static int farePart(Order order, int part) {
        switch (part) {
            case 0:
                return order.base;
            case 1:
                return order.way;
            case 2:
                return order.waiting;
            case 3:
                return order.night;
            default:
                return wholeFare(order);
        }
    }

    private static int wholeFare(Order order) {
        return order.base + order.way + order.waiting + order.night;
    }

    private int ordersInState(int state) {
        int found = 0;
        for (int i = 0; i < orders.size(); i++) {
            if (orders.get(i).state == state) {
                found++;
            }
        }
        return found;
    }

    // ---- checksum

    private static long mix(long d, long x) {
        return d * DIGEST_FACTOR + x;
    }

    private long mixCab(long d, Cab cab) {
        long mixed = d;
        for (int what = 0; what < CAB_DETAILS; what++) {
            mixed = mix(mixed, cabDetail(cab, what));
        }
        return mix(mix(mixed, cab.kept), cab.due);
    }

    private static long mixOrder(long d, Order order) {
        long mixed = d;
        for (int what = 0; what < ORDER_DETAILS; what++) {
            mixed = mix(mixed, orderDetail(order, what));
        }
        return mix(mixed, wholeFare(order));
    }

    private long mixQueue(long d, int zone) {
        long mixed = d;
        for (int place = 0; place < cabs.size(); place++) {
            int number = cabInQueue(zone, place);
            if (number != NONE) {
                mixed = mix(mixed, number);
            }
        }
        return mixed;
    }
}
