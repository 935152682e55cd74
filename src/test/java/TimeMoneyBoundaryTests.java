import java.math.BigInteger;

/** The boundary cases of promises 14 to 22; the remark of each test names the sentence that it is for. */
public final class TimeMoneyBoundaryTests extends Checks {
    // Promise 14, "minutes is not 1 to 300": 1 and 300 are taken.
    static void leastAndMostMinutesOfATick() {
        TaxiRank x = new TaxiRank();
        is("tick(1)", x.tick(1), 0);
        is("now", x.now(), 1);
        is("tick(300)", x.tick(300), 0);
        is("now", x.now(), 301);
    }

    // Promise 14, "Throws IllegalArgumentException if minutes is not 1 to 300": 0 and 301 and what is beyond them
    // are refused, and no offer grows older by them.
    static void tooFewAndTooManyMinutesOfATick() {
        TaxiRank x = rankWithOrderThatIs(1);
        failsWith(x, "tick(?)", ARGUMENT, n -> x.tick(n), 0, 301, -1, LEAST, MOST);
        is("now", x.now(), 0);
        x.tick(1);
        failsWith(x, "tick(?) at 1", ARGUMENT, n -> x.tick(n), 0, 301, -1, LEAST, MOST);
        isOrder(x, 0, 1, 0, -1, -1, 0);
    }

    // Promise 14, "or the time would be greater than 9999": up to 9999 it goes on, to 10000 it does not.
    static void lastTickOfAll() {
        TaxiRank x = new TaxiRank();
        pass(x, 9700);
        failsWith(x, "tick(?) at 9700", ARGUMENT, n -> x.tick(n), 300, 301, MOST);
        is("tick(299) at 9700", x.tick(299), 0);
        is("now", x.now(), 9999);
        failsWith(x, "tick(?) at 9999", ARGUMENT, n -> x.tick(n), 1, 2, 300, 0, -1, LEAST, MOST);
        is("now", x.now(), 9999);
        TaxiRank y = new TaxiRank();
        pass(y, 9699);
        is("tick(300) at 9699", y.tick(300), 0);
        is("now", y.now(), 9999);
    }

    // Promise 14, "Returns how many orders were DONE in them": the ride that ends at the last minute of all
    // counts; one that would end later is RIDING still.
    static void ridesAtTheLastMinuteOfAll() {
        TaxiRank x = new TaxiRank();
        pass(x, 9900);
        addStarted(x, 4, 0);
        addStarted(x, 4, 0);
        addStarted(x, 4, 0);
        x.setWay(0, 1, 94);
        x.setWay(0, 2, 95);
        x.setWay(0, 3, 99);
        x.order(0, 1, 1, 9900);
        x.order(0, 2, 1, 9900);
        x.order(3, 1, 1, 9900);
        for (int cab = 0; cab < 3; cab++) {
            x.accept(cab);
        }
        is("tick(98)", x.tick(98), 0);
        is("tick(1)", x.tick(1), 1);
        isOrder(x, 0, 4, 0, 9905, 9999, 0);
        isOrder(x, 1, 3, 1, 9905, -1, 0);
        isOrder(x, 2, 3, 2, 9999, -1, 0);
    }

    // Promise 14, "Returns how many orders were DONE in them": none, one, several in one minute, and those of all
    // the minutes, not of the last one alone; not those of ticks before.
    static void howManyWereDone() {
        TaxiRank x = rankWith(4);
        for (int i = 0; i < 3; i++) {
            x.order(0, 0, 1, 0);
            x.accept(i);
        }
        x.order(0, 1, 1, 0);
        x.accept(3);
        is("tick(9)", x.tick(9), 0);
        is("tick(1)", x.tick(1), 3);
        is("tick(4)", x.tick(4), 0);
        is("tick(1)", x.tick(1), 1);
        is("tick(1)", x.tick(1), 0);
        TaxiRank y = rankWith(4);
        y.order(0, 0, 1, 0);
        y.order(0, 1, 1, 0);
        y.accept(0);
        y.accept(1);
        is("tick(300)", y.tick(300), 2);
        is("DONE", y.count(6), 2);
    }

    // Promise 14, "Lets minutes pass", and Terms, "one after the other": many at once are as many one by one.
    static void manyMinutesAreAsManyOneByOne() {
        TaxiRank once = busyRank();
        TaxiRank oneByOne = busyRank();
        int done = 0;
        for (int i = 0; i < 60; i++) {
            done += oneByOne.tick(1);
        }
        is("tick(60)", once.tick(60), done);
        is("digest", once.digest(), oneByOne.digest());
        is("DONE", done, 2);
    }

    private static TaxiRank busyRank() {
        TaxiRank x = rankWith(4);
        x.setWay(0, 2, 7);
        for (int i = 0; i < 6; i++) {
            x.order(i, 5 - i, 1, 8 * i);
        }
        x.accept(0);
        x.accept(1);
        return x;
    }

    // Promise 15, "Returns the time", and Terms, "it is 0 at first and goes on by tick alone": no other call
    // moves it.
    static void timeGoesOnByTickAlone() {
        TaxiRank x = new TaxiRank();
        is("at first", x.now(), 0);
        x.setWay(0, 1, 5);
        addStarted(x, 4, 0);
        x.setRates(5, 3);
        x.order(0, 1, 1, 0);
        x.refuse(0);
        x.order(0, 1, 1, 15);
        x.accept(0);
        x.cancel(1);
        x.stop(0);
        x.settle(0);
        x.digest();
        is("after other calls", x.now(), 0);
        x.tick(1);
        is("after a minute", x.now(), 1);
    }

    // Promise 16, "Throws IndexOutOfBoundsException if there is no such zone": 0 and 5 are answered, -1 and 6 are
    // not.
    static void queueOfNoZone() {
        TaxiRank x = new TaxiRank();
        addStarted(x, 4, 5);
        is("queue(5, 0)", x.queue(5, 0), 0);
        is("queue(0, 0)", x.queue(0, 0), -1);
        failsWith(x, "queue(?, 0)", INDEX, n -> x.queue(n, 0), -1, 6, LEAST, MOST);
        failsWith(x, "queue(?, -1)", INDEX, n -> x.queue(n, -1), -1, 6);
    }

    // Promise 16, "or place is less than 0": 0 is answered, -1 is not, be the queue empty or not.
    static void queueAtAPlaceLessThanNone() {
        TaxiRank x = rankWith(1);
        failsWith(x, "queue(0, ?)", INDEX, n -> x.queue(0, n), -1, -2, LEAST);
        failsWith(x, "queue(1, ?)", INDEX, n -> x.queue(1, n), -1, -2, LEAST);
        is("queue(0, 0)", x.queue(0, 0), 0);
        is("queue(1, 0)", x.queue(1, 0), -1);
    }

    // Promise 16, "Returns the cab there; -1 if there is none": the last place of a full queue, the one behind
    // it, and any beyond.
    static void queueAtItsLastPlaceAndBeyond() {
        TaxiRank x = rankWith(10);
        is("queue(0, 9)", x.queue(0, 9), 9);
        is("queue(0, 10)", x.queue(0, 10), -1);
        is("queue(0, 11)", x.queue(0, 11), -1);
        is("queue(0, MOST)", x.queue(0, MOST), -1);
        x.stop(4);
        is("queue(0, 4)", x.queue(0, 4), 5);
        is("queue(0, 8)", x.queue(0, 8), 9);
        is("queue(0, 9)", x.queue(0, 9), -1);
    }

    // Promise 17, "Throws IndexOutOfBoundsException if what is not 0 to 7": 0 and 7 are answered.
    static void countOfNothing() {
        TaxiRank x = rankWithOrderThatIs(5);
        is("count(0)", x.count(0), 1);
        is("count(7)", x.count(7), 1);
        failsWith(x, "count(?)", INDEX, n -> x.count(n), -1, 8, LEAST, MOST);
    }

    // Promise 17, "2 to 7 orders that are WAITING, OFFERED, ACCEPTED, RIDING, DONE, CANCELLED": one order is
    // counted under one of them and under 1.
    static void countOfOneOrderInEachState() {
        for (int state = 0; state <= 5; state++) {
            TaxiRank x = rankWithOrderThatIs(state);
            is("orders", x.count(1), 1);
            for (int what = 2; what <= 7; what++) {
                is("count(" + what + ") when it is " + state, x.count(what), what - 2 == state ? 1 : 0);
            }
        }
    }

    // Promise 17, "0 cabs, 1 orders": the most that there can be, be they at work or not.
    static void countOfAFullRank() {
        TaxiRank x = rankWith(10);
        for (int i = 0; i < 60; i++) {
            x.order(0, 0, 1, 0);
        }
        x.cancel(59);
        x.stop(9);
        int[] due = {10, 60, 50, 9, 0, 0, 0, 1};
        for (int what = 0; what <= 7; what++) {
            is("count(" + what + ")", x.count(what), due[what]);
        }
    }

    // Promise 18, "of all fares of its orders that are DONE": not ahead of the last minute of the ride.
    static void moneyWhenTheOrderIsDone() {
        TaxiRank x = ride(4, 2, 10, 400, 0);
        isMoney(x, 0, 0, 0);
        x.tick(9);
        isMoney(x, 0, 0, 0);
        x.tick(1);
        isMoney(x, 0, 19, 5);
        x.tick(300);
        isMoney(x, 0, 19, 5);
        TaxiRank y = rankWithOrderThatIs(5);
        isMoney(y, 0, 0, 0);
    }

    // Promise 18, "the sum of what it keeps", and Terms, "80 in 100 of each fare (cut towards 0); the rest is its
    // due to the rank": a base alone is the fare, from the least to the most.
    static void moneyOfFaresOfEachSize() {
        int[] fares = {0, 1, 2, 3, 4, 5, 6, 9, 10, 99, 100};
        int[] kept = {0, 0, 1, 2, 3, 4, 4, 7, 8, 79, 80};
        for (int i = 0; i < fares.length; i++) {
            TaxiRank x = ride(fares[i], 0, 1, 400, 0);
            x.tick(1);
            is("fare", x.fare(0, 4), fares[i]);
            isMoney(x, 0, kept[i], fares[i] - kept[i]);
        }
        TaxiRank most = ride(100, 20, 120, 100, 0);
        most.tick(120);
        isMoney(most, 0, 3000, 750);
    }

    // Promise 18, and Terms, "cut towards 0": what it keeps of a fare less than 0 is cut towards 0 too.
    static void moneyOfFaresLessThanNone() {
        int[] kept = {0, 0, -1, -2, -3, -4};
        for (int late = 1; late <= 5; late++) {
            TaxiRank x = ride(0, 0, 1, 400, late);
            x.tick(1);
            is("fare", x.fare(0, 4), -late);
            isMoney(x, 0, kept[late], -late - kept[late]);
        }
    }

    // Promise 18, and Terms, "80 in 100 of each fare": of each one, not of their sum.
    static void moneyOfEachFareByItself() {
        TaxiRank x = ride(1, 0, 10, 400, 0);
        x.tick(10);
        isMoney(x, 0, 0, 1);
        for (int i = 1; i <= 4; i++) {
            x.order(1, 1, 1, x.now() + 5);
            x.accept(0);
            is("DONE", x.tick(10), 1);
            isMoney(x, 0, 0, 1 + i);
        }
    }

    // Promise 18, "its orders": those of another cab do not count, nor one that it has refused.
    static void moneyOfItsOwnOrders() {
        TaxiRank x = rankWith(2);
        x.order(0, 1, 1, 0);
        x.refuse(0);
        x.accept(1);
        is("DONE", x.tick(15), 1);
        isMoney(x, 0, 0, 0);
        isMoney(x, 1, 24, 7);
    }

    // Promise 18, "Throws IndexOutOfBoundsException if there is no such cab".
    static void moneyOfNoCab() {
        TaxiRank x = rankWith(1);
        failsWith(x, "money(?, true)", INDEX, n -> x.money(n, true), -1, 1, 10, LEAST, MOST);
        failsWith(x, "money(?, false)", INDEX, n -> x.money(n, false), -1, 1, 10, LEAST, MOST);
        isMoney(x, 0, 0, 0);
    }

    // Promise 19, "Returns what it paid": none ahead of the first DONE order, all of it then, none the next time.
    static void settleFromNoneToNone() {
        TaxiRank x = ride(4, 2, 10, 400, 0);
        is("while riding", x.settle(0), 0);
        x.tick(9);
        is("at the last minute of the ride", x.settle(0), 0);
        x.tick(1);
        is("when it is DONE", x.settle(0), 5);
        is("once more", x.settle(0), 0);
        is("of a new cab", rankWithCabThatIs(0).settle(0), 0);
    }

    // Promise 19, "A cab pays its due", and promise 18, "less what was settled (of the due)": what it keeps stays
    // and grows, and the next due is of the next fares alone.
    static void settleTakesTheDueAlone() {
        TaxiRank x = ride(4, 2, 10, 400, 0);
        x.tick(10);
        isMoney(x, 0, 19, 5);
        is("settle", x.settle(0), 5);
        isMoney(x, 0, 19, 0);
        x.order(1, 0, 1, 415);
        x.accept(0);
        x.tick(15);
        isMoney(x, 0, 38, 5);
        x.order(0, 1, 1, 430);
        x.accept(0);
        x.tick(15);
        isMoney(x, 0, 57, 10);
        is("settle", x.settle(0), 10);
        isMoney(x, 0, 57, 0);
    }

    // Promise 19, "A cab pays its due": another cab's stays.
    static void settleOfOneCab() {
        TaxiRank x = rankWith(2);
        x.order(0, 1, 1, 0);
        x.order(0, 1, 1, 0);
        x.accept(0);
        x.accept(1);
        is("DONE", x.tick(15), 2);
        is("settle(1)", x.settle(1), 7);
        isMoney(x, 0, 24, 7);
        isMoney(x, 1, 24, 0);
    }

    // Promise 19, "Returns what it paid": a due that is less than 0 is paid as it is.
    static void settleOfADueLessThanNone() {
        TaxiRank x = ride(0, 0, 1, 400, 5);
        x.tick(1);
        is("settle", x.settle(0), -1);
        isMoney(x, 0, -4, 0);
        is("once more", x.settle(0), 0);
    }

    // Promise 19, "A cab pays its due": in whatever state it is, which stays.
    static void settleInEachState() {
        for (int state = 0; state <= 3; state++) {
            TaxiRank x = rankWithCabThatIs(state);
            is("settle", x.settle(0), 0);
            is("its state", x.cab(0, 0), state);
        }
        TaxiRank off = rankWithOrderThatIs(4);
        off.stop(0);
        is("settle of an OFF cab", off.settle(0), 7);
        TaxiRank offered = rankWithOrderThatIs(4);
        offered.order(1, 0, 1, 15);
        is("settle with an offer", offered.settle(0), 7);
        TaxiRank call = rankWithOrderThatIs(4);
        call.order(1, 0, 1, 15);
        call.accept(0);
        is("settle on CALL", call.settle(0), 7);
        is("on CALL still", call.cab(0, 0), 2);
        TaxiRank busy = rankWithOrderThatIs(4);
        busy.order(1, 0, 1, 15);
        busy.accept(0);
        busy.tick(5);
        is("settle of a BUSY cab", busy.settle(0), 7);
        is("DONE", busy.tick(10), 1);
        isMoney(busy, 0, 48, 7);
    }

    // Promise 19, "Throws IndexOutOfBoundsException if there is no such cab".
    static void settleOfNoCab() {
        TaxiRank x = rankWithOrderThatIs(4);
        failsWith(x, "settle(?)", INDEX, n -> x.settle(n), -1, 1, 10, LEAST, MOST);
        isMoney(x, 0, 24, 7);
    }

    // Promise 20, "0 if there are none": no order, or none of which the ride has begun, to the last minute.
    static void latenessOfNone() {
        isD("no order", new TaxiRank().lateness(), 0.0);
        for (int state : new int[] {0, 1, 2, 5}) {
            isD("when it is " + state, rankWithOrderThatIs(state).lateness(), 0.0);
        }
        TaxiRank x = rankWithOrderThatIs(2);
        x.tick(4);
        isD("last minute of the CALL", x.lateness(), 0.0);
        x.tick(1);
        isD("first minute of the ride", x.lateness(), 5.0);
        x.tick(10);
        isD("when it is DONE", x.lateness(), 5.0);
    }

    // Promise 20, "of the minutes by which it began later than due": one on time counts as 0, and more than the
    // 5 that a fare takes off count whole.
    static void latenessFromNoneToMuch() {
        int[] late = {0, 1, 5, 6, 395};
        for (int minutes : late) {
            isD("late by " + minutes, ride(4, 2, 10, 400, minutes).lateness(), minutes);
        }
    }

    // Promise 20, "the mean, over all orders whose ride has begun": a mean that is no whole number is not cut,
    // and orders that have not begun do not count, however long they wait.
    static void latenessIsNotCut() {
        TaxiRank x = rankWith(3);
        x.order(0, 1, 1, 4);
        x.order(0, 1, 1, 5);
        x.order(0, 1, 1, 5);
        x.order(0, 1, 8, 0);
        for (int cab = 0; cab < 3; cab++) {
            x.accept(cab);
        }
        x.tick(5);
        isD("1, 0 and 0", x.lateness(), 1.0 / 3);
        TaxiRank y = rankWith(2);
        y.order(0, 0, 1, 3);
        y.order(0, 0, 1, 4);
        y.accept(0);
        y.accept(1);
        y.tick(12);
        isD("2 and 1", y.lateness(), 1.5);
        y.cancel(y.order(0, 0, 1, 12));
        isD("a cancelled one does not count", y.lateness(), 1.5);
    }

    // Promise 21, "-1 if there is none": no cab, none that is FREE, none with enough seats, none without an offer.
    static void nearestOfNone() {
        is("no cab", new TaxiRank().nearest(0, 1), -1);
        int[] due = {-1, 5, -1, -1};
        for (int state = 0; state <= 3; state++) {
            is("the cab is " + state, rankWithCabThatIs(state).nearest(0, 1), due[state]);
        }
        is("an offer is made to it", rankWithOrderThatIs(1).nearest(0, 1), -1);
        TaxiRank x = rankWithOrderThatIs(1);
        x.cancel(0);
        is("the offer is gone", x.nearest(0, 1), 5);
    }

    // Promise 21, "with enough seats": as many as passengers are enough, one less is not.
    static void nearestWithJustEnoughSeats() {
        for (int seats = 1; seats <= 8; seats++) {
            TaxiRank x = new TaxiRank();
            addStarted(x, seats, 0);
            for (int passengers = 1; passengers <= 8; passengers++) {
                is(passengers + " in " + seats, x.nearest(0, passengers), passengers <= seats ? 5 : -1);
            }
        }
    }

    // Promise 21, "the minutes that the nearest FREE cab [...] needs to this zone": 5 within it, 1 and 120 from
    // others, and the least of them, wherever that cab is.
    static void nearestFromEachZone() {
        TaxiRank x = new TaxiRank();
        x.setWay(0, 5, 120);
        x.setWay(1, 5, 6);
        x.setWay(3, 5, 4);
        x.setWay(2, 5, 1);
        addStarted(x, 4, 0);
        is("from 0 alone", x.nearest(5, 1), 120);
        addStarted(x, 4, 1);
        is("from 1 too", x.nearest(5, 1), 6);
        addStarted(x, 4, 5);
        is("from within too", x.nearest(5, 1), 5);
        addStarted(x, 4, 3);
        is("from 3 too", x.nearest(5, 1), 4);
        addStarted(x, 4, 2);
        is("from 2 too", x.nearest(5, 1), 1);
        x.stop(4);
        is("from 2 no more", x.nearest(5, 1), 4);
    }

    // Promise 21, "the nearest FREE cab": a nearer one that is too small, OFF, or has an offer is passed over.
    static void nearestPassesOverOthers() {
        TaxiRank x = new TaxiRank();
        x.setWay(0, 1, 20);
        x.setWay(0, 2, 30);
        addStarted(x, 2, 0);
        addStarted(x, 3, 1);
        addStarted(x, 4, 2);
        is("2 passengers", x.nearest(0, 2), 5);
        is("3 passengers", x.nearest(0, 3), 20);
        is("4 passengers", x.nearest(0, 4), 30);
        x.order(0, 0, 1, 0);
        is("an offer is made to the nearest", x.nearest(0, 2), 20);
        x.stop(1);
        is("the next one is OFF", x.nearest(0, 2), 30);
    }

    // Promise 21, "Throws IndexOutOfBoundsException if there is no such zone", "Throws IllegalArgumentException if
    // passengers is not 1 to 8", and the former if both apply (Terms).
    static void nearestOfNoZoneOrPassengers() {
        TaxiRank x = rankWith(1);
        failsWith(x, "nearest(?, 1)", INDEX, n -> x.nearest(n, 1), -1, 6, LEAST, MOST);
        failsWith(x, "nearest(0, ?)", ARGUMENT, n -> x.nearest(0, n), 0, 9, -1, LEAST, MOST);
        failsWith(x, "nearest(?, 0)", INDEX, n -> x.nearest(n, 0), -1, 6);
        failsWith(x, "nearest(6, ?)", INDEX, n -> x.nearest(6, n), 0, 9);
        is("nearest(5, 4)", x.nearest(5, 4), 10);
        is("nearest(0, 1)", x.nearest(0, 1), 5);
    }

    /** The document's numbers, put together in whole numbers without a bound. */
    private static BigInteger wholeDigest(TaxiRank x) {
        int cabs = x.count(0);
        int orders = x.count(1);
        BigInteger d = join(join(BigInteger.valueOf(293), x.now()), cabs);
        for (int cab = 0; cab < cabs; cab++) {
            for (int what = 0; what <= 4; what++) {
                d = join(d, x.cab(cab, what));
            }
            d = join(join(d, x.money(cab, false)), x.money(cab, true));
        }
        d = join(d, orders);
        for (int order = 0; order < orders; order++) {
            for (int what = 0; what <= 4; what++) {
                d = join(d, x.told(order, what));
            }
            d = join(d, x.fare(order, 4));
        }
        for (int zone = 0; zone <= 5; zone++) {
            int place = 0;
            for (int cab = x.queue(zone, 0); cab >= 0; cab = x.queue(zone, place)) {
                d = join(d, cab);
                place++;
            }
        }
        return d;
    }

    private static BigInteger join(BigInteger d, int number) {
        return d.multiply(BigInteger.valueOf(31)).add(BigInteger.valueOf(number));
    }

    // Promise 22, "A number d starts with 293": a rank without cabs and orders has the time and two noughts alone.
    static void digestOfANewRank() {
        TaxiRank x = new TaxiRank();
        is("at 0", x.digest(), 293L * 31 * 31 * 31);
        x.tick(1);
        is("at 1", x.digest(), (293L * 31 + 1) * 31 * 31);
        pass(x, 9998);
        is("at 9999", x.digest(), (293L * 31 + 9999) * 31 * 31);
    }

    // Promise 22, "for each of them what cab() tells, in its order, and both of money() (the due last)": -1 is
    // added as it is, and the last cab of a queue is the last number.
    static void digestOfOneCab() {
        TaxiRank x = new TaxiRank();
        x.addCab(7, 5);
        is("an OFF cab", x.digest(), digestOf(0, 1, 0, 5, 7, -1, -1, 0, 0, 0));
        x.start(0);
        is("a FREE cab", x.digest(), digestOf(0, 1, 1, 5, 7, -1, 0, 0, 0, 0, 0));
        TaxiRank y = ride(4, 2, 10, 400, 0);
        y.tick(10);
        is("with money", y.digest(), digestOf(410, 1, 1, 1, 1, -1, 0, 19, 5, 1, 4, 0, 400, 410, 0, 24, 0));
        y.settle(0);
        is("after settle", y.digest(), digestOf(410, 1, 1, 1, 1, -1, 0, 19, 0, 1, 4, 0, 400, 410, 0, 24, 0));
    }

    // Promise 22, "for each of them what told() tells, in its order, and all of its fare", in each state.
    static void digestOfOneOrder() {
        is("WAITING", rankWithOrderThatIs(0).digest(), digestOf(0, 0, 1, 0, -1, -1, -1, 0, 0));
        is("OFFERED", rankWithOrderThatIs(1).digest(),
                digestOf(0, 1, 1, 0, 4, 0, 0, 0, 0, 1, 1, 0, -1, -1, 0, 0, 0));
        is("ACCEPTED", rankWithOrderThatIs(2).digest(),
                digestOf(0, 1, 2, 0, 4, 0, -1, 0, 0, 1, 2, 0, -1, -1, 0, 0));
        is("RIDING", rankWithOrderThatIs(3).digest(),
                digestOf(5, 1, 3, 0, 4, 0, -1, 0, 0, 1, 3, 0, 5, -1, 0, 31));
        is("DONE", rankWithOrderThatIs(4).digest(),
                digestOf(15, 1, 1, 1, 4, -1, 0, 24, 7, 1, 4, 0, 5, 15, 0, 31, 0));
        is("CANCELLED", rankWithOrderThatIs(5).digest(),
                digestOf(0, 1, 1, 0, 4, -1, 0, 0, 0, 1, 5, -1, -1, -1, 0, 0, 0));
    }

    private static long digestOf(int... numbers) {
        BigInteger d = BigInteger.valueOf(293);
        for (int number : numbers) {
            d = join(d, number);
        }
        return d.longValue();
    }

    // Promise 22, "which wraps around as a 64-bit integer": numbers that pass its bounds by far, below 0 and above.
    static void digestWrapsAround() {
        TaxiRank x = rankWith(10);
        int below = 0;
        int above = 0;
        for (int i = 0; i < 12; i++) {
            x.order(i % 6, 5, 1, i);
            BigInteger whole = wholeDigest(x);
            is("it passes the bounds", whole.bitLength() > 64 ? 1 : 0, 1);
            is("digest", x.digest(), whole.longValue());
            below += whole.longValue() < 0 ? 1 : 0;
            above += whole.longValue() > 0 ? 1 : 0;
            x = i % 4 == 3 ? otherRank(i) : x;
        }
        is("some are below 0 and some above", below > 0 && above > 0 ? 1 : 0, 1);
    }

    private static TaxiRank otherRank(int cabs) {
        TaxiRank x = new TaxiRank();
        for (int i = 0; i <= Math.min(cabs, 9); i++) {
            addStarted(x, 1 + i % 8, i % 6);
        }
        return x;
    }

    // Promise 22, "for each zone the cabs in its queue, in their order": zone by zone, not by number, and none
    // that has left its queue.
    static void digestOfQueues() {
        TaxiRank x = new TaxiRank();
        for (int cab = 0; cab < 6; cab++) {
            x.addCab(4, cab < 3 ? 5 : 0);
        }
        for (int cab : new int[] {2, 4, 0, 3, 1, 5}) {
            x.start(cab);
        }
        x.stop(3);
        isQueue(x, 0, 4, 5);
        isQueue(x, 5, 2, 0, 1);
        is("digest", x.digest(), wholeDigest(x).longValue());
        x.stop(2);
        x.start(2);
        is("digest in another order", x.digest(), wholeDigest(x).longValue());
    }

    // Promise 22, "Returns d": it changes nothing, and two ranks after the same calls have the same one.
    static void digestOfTheSameCalls() {
        TaxiRank x = busyRank();
        TaxiRank y = busyRank();
        long first = x.digest();
        is("again", x.digest(), first);
        is("of another rank", y.digest(), first);
        x.tick(60);
        y.tick(60);
        is("later", x.digest(), y.digest());
        is("by its numbers", x.digest(), wholeDigest(x).longValue());
    }

    public static void main(String[] args) {
        runTestsOf(TimeMoneyBoundaryTests.class);
    }
}
