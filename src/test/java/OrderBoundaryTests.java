/** The boundary cases of promises 8 to 13; the remark of each test names the sentence that it is for. */
public final class OrderBoundaryTests extends Checks {
    // Promise 8, "Throws IndexOutOfBoundsException if there is no such zone": for from, for to, for both.
    static void orderOfNoZone() {
        TaxiRank x = rankWith(1);
        failsWith(x, "order(?, 0, 1, 0)", INDEX, n -> x.order(n, 0, 1, 0), -1, 6, LEAST, MOST);
        failsWith(x, "order(0, ?, 1, 0)", INDEX, n -> x.order(0, n, 1, 0), -1, 6, LEAST, MOST);
        failsWith(x, "order(?, ?, 1, 0)", INDEX, n -> x.order(n, n, 1, 0), -1, 6, LEAST, MOST);
        is("orders", x.count(1), 0);
    }

    // Promise 8, "the zone where it begins" and "the zone where it ends": 0 and 5 are zones, and the two may
    // be the same.
    static void orderOfEachZone() {
        TaxiRank x = new TaxiRank();
        for (int zone = 0; zone < 6; zone++) {
            addStarted(x, 4, zone);
        }
        for (int zone = 0; zone < 6; zone++) {
            isOffered(x, x.order(zone, 5 - zone, 1, 0), zone);
        }
        TaxiRank y = rankWith(1);
        is("from 0 to 0", y.order(0, 0, 1, 0), 0);
        y.accept(0);
        is("DONE within the zone", y.tick(10), 1);
        is("zone", y.cab(0, 1), 0);
    }

    // Promise 8, "passengers is not 1 to 8": 1 and 8 are taken.
    static void leastAndMostPassengers() {
        TaxiRank x = new TaxiRank();
        addStarted(x, 7, 0);
        addStarted(x, 8, 0);
        is("8 passengers", x.order(0, 1, 8, 0), 0);
        isOffered(x, 0, 1);
        is("1 passenger", x.order(0, 1, 1, 0), 1);
        isOffered(x, 1, 0);
    }

    // Promise 8, "passengers is not 1 to 8": 0 and 9 and what is beyond them are refused.
    static void tooFewAndTooManyPassengers() {
        TaxiRank x = rankWith(1);
        failsWith(x, "order(0, 1, ?, 0)", ARGUMENT, n -> x.order(0, 1, n, 0), 0, 9, -1, LEAST, MOST);
        is("orders", x.count(1), 0);
    }

    // Promise 8, "or due is less than now": now is taken, one less is not; at 0, later, and at the last minute.
    static void dueNowAndAheadOfNow() {
        TaxiRank x = new TaxiRank();
        failsWith(x, "order(0, 1, 1, ?) at 0", ARGUMENT, n -> x.order(0, 1, 1, n), -1, LEAST);
        is("due 0 at 0", x.order(0, 1, 1, 0), 0);
        x.tick(1);
        failsWith(x, "order(0, 1, 1, ?) at 1", ARGUMENT, n -> x.order(0, 1, 1, n), 0, -1, LEAST);
        is("due 1 at 1", x.order(0, 1, 1, 1), 1);
        pass(x, 9998);
        failsWith(x, "order(0, 1, 1, ?) at 9999", ARGUMENT, n -> x.order(0, 1, 1, n), 9998, 10000, MOST);
        is("due 9999 at 9999", x.order(0, 1, 1, 9999), 2);
    }

    // Promise 8, "or greater than 9999": 9999 is taken, 10000 is not.
    static void dueAtTheLastMinuteAndBeyond() {
        TaxiRank x = new TaxiRank();
        failsWith(x, "order(0, 1, 1, ?)", ARGUMENT, n -> x.order(0, 1, 1, n), 10000, 10001, MOST);
        is("due 9999", x.order(0, 1, 1, 9999), 0);
        is("due 9998", x.order(0, 1, 1, 9998), 1);
    }

    // Promise 8, "Throws IllegalStateException if there are 60 orders": the sixtieth is the last, and orders that
    // are CANCELLED or DONE count too.
    static void sixtiethOrderIsTheLast() {
        TaxiRank x = rankWith(1);
        for (int i = 0; i < 60; i++) {
            is("order", x.order(0, 0, 1, 0), i);
        }
        failsWith(x, "order(0, 0, ?, 0)", STATE, n -> x.order(0, 0, n, 0), 1, 8);
        x.accept(0);
        x.tick(10);
        is("the first one is DONE", x.told(0, 0), 4);
        fails(x, "order after a DONE one", STATE, () -> x.order(0, 0, 1, 10));
        for (int i = 1; i < 60; i++) {
            x.cancel(i);
        }
        fails(x, "order when all are cancelled", STATE, () -> x.order(0, 0, 1, 10));
        is("orders", x.count(1), 60);
        failsWith(x, "told(?, 0)", INDEX, n -> x.told(n, 0), 60, 61);
    }

    // Terms, "If several exceptions apply, the one that is named first is thrown", for promise 8.
    static void wrongOrderIsNamedAheadOfSixtyOrders() {
        TaxiRank x = new TaxiRank();
        x.tick(1);
        failsWith(x, "order(?, 0, 0, 0)", INDEX, n -> x.order(n, 0, 0, 0), -1, 6);
        failsWith(x, "order(0, ?, 9, 10000)", INDEX, n -> x.order(0, n, 9, 10000), -1, 6);
        for (int i = 0; i < 60; i++) {
            x.order(0, 0, 1, 1);
        }
        failsWith(x, "order(?, 0, 1, 1), the 61st", INDEX, n -> x.order(n, 0, 1, 1), -1, 6);
        failsWith(x, "order(0, ?, 1, 1), the 61st", INDEX, n -> x.order(0, n, 1, 1), -1, 6);
        failsWith(x, "order(0, 0, ?, 1), the 61st", ARGUMENT, n -> x.order(0, 0, n, 1), 0, 9);
        failsWith(x, "order(0, 0, 1, ?), the 61st", ARGUMENT, n -> x.order(0, 0, 1, n), 0, 10000);
    }

    // Promise 8, "Returns its number", and Terms, "numbered likewise": from 0, and a refused call takes none.
    static void refusedOrderTakesNoNumber() {
        TaxiRank x = new TaxiRank();
        fails(x, "order(0, 0, 9, 0)", ARGUMENT, () -> x.order(0, 0, 9, 0));
        is("first", x.order(0, 0, 1, 0), 0);
        fails(x, "order(0, 6, 1, 0)", INDEX, () -> x.order(0, 6, 1, 0));
        is("second", x.order(0, 0, 1, 0), 1);
        x.cancel(1);
        is("third", x.order(0, 0, 1, 0), 2);
    }

    // Promise 8, the mark *: an order is offered in the call that takes it, a preorder from 15 minutes ahead on.
    static void orderIsOfferedAtOnce() {
        TaxiRank x = rankWith(3);
        isOffered(x, x.order(0, 1, 1, 0), 0);
        isOffered(x, x.order(0, 1, 1, 15), 1);
        isOffered(x, x.order(0, 1, 1, 16), -1);
    }

    // Promise 9, "Returns the minutes of its way to the passengers": 5 within the zone, 10 at first, 1 and 120.
    static void acceptReturnsTheMinutes() {
        TaxiRank x = rankWith(4);
        x.setWay(0, 2, 1);
        x.setWay(0, 3, 120);
        for (int zone = 0; zone < 4; zone++) {
            x.order(zone, 5, 1, 0);
        }
        int[] due = {5, 10, 1, 120};
        for (int zone = 0; zone < 4; zone++) {
            is("accept for zone " + zone, x.accept(zone), due[zone]);
        }
    }

    // Promise 9, "Returns the minutes of its way": as they are when it accepts, not when it was offered; and
    // (Terms) "is there after the minutes of the way", whatever is set on its way.
    static void acceptTakesTheWayOfItsTime() {
        TaxiRank x = rankWith(1);
        x.order(1, 2, 1, 0);
        x.setWay(0, 1, 7);
        is("accept", x.accept(0), 7);
        x.setWay(0, 1, 3);
        x.tick(6);
        is("on CALL", x.cab(0, 0), 2);
        x.setWay(0, 1, 30);
        x.tick(1);
        is("BUSY", x.cab(0, 0), 3);
    }

    // Promise 9, "Returns the minutes of its way": not those until the due time that it waits for.
    static void acceptReturnsTheWayOfAPreorder() {
        TaxiRank x = rankWith(1);
        x.order(1, 2, 1, 15);
        is("accept", x.accept(0), 10);
    }

    // Promise 9, "Throws IllegalStateException if nothing is offered to it": in each state, and after each end
    // of an offer.
    static void acceptOfNothing() {
        for (int state = 0; state <= 3; state++) {
            TaxiRank x = rankWithCabThatIs(state);
            fails(x, "accept when it is " + state, STATE, () -> x.accept(0));
        }
        TaxiRank refused = rankWithOrderThatIs(1);
        refused.refuse(0);
        fails(refused, "accept after refuse", STATE, () -> refused.accept(0));
        TaxiRank stopped = rankWithOrderThatIs(1);
        stopped.stop(0);
        fails(stopped, "accept after stop", STATE, () -> stopped.accept(0));
        TaxiRank cancelled = rankWithOrderThatIs(5);
        fails(cancelled, "accept after cancel", STATE, () -> cancelled.accept(0));
        TaxiRank done = rankWithOrderThatIs(4);
        fails(done, "accept after the ride", STATE, () -> done.accept(0));
        TaxiRank other = rankWith(2);
        other.order(0, 0, 1, 0);
        fails(other, "accept of what is offered to another cab", STATE, () -> other.accept(1));
    }

    // Promise 9, "A cab accepts what is offered to it", and Terms, "when it is 2 minutes old: then the cab has
    // refused it": after 1 minute it can accept, after 2 no more.
    static void acceptOfAnOldOffer() {
        TaxiRank x = rankWithOrderThatIs(1);
        x.tick(1);
        is("1 minute old", x.accept(0), 5);
        isOrder(x, 0, 2, 0, -1, -1, 0);
        TaxiRank y = rankWithOrderThatIs(1);
        y.tick(2);
        fails(y, "2 minutes old", STATE, () -> y.accept(0));
        isOrder(y, 0, 0, -1, -1, -1, 1);
    }

    // Promise 9, "Throws IndexOutOfBoundsException if there is no such cab".
    static void acceptOfNoCab() {
        TaxiRank x = rankWithOrderThatIs(1);
        failsWith(x, "accept(?)", INDEX, n -> x.accept(n), -1, 1, 10, LEAST, MOST);
        is("accept(0)", x.accept(0), 5);
    }

    // Promise 9, "A cab accepts": it leaves the queue, be it first, in the middle, or last.
    static void acceptLeavesTheQueue() {
        TaxiRank x = rankWith(3);
        x.order(0, 0, 1, 0);
        x.order(0, 0, 1, 0);
        x.order(0, 0, 1, 0);
        x.accept(1);
        isQueue(x, 0, 0, 2);
        x.accept(2);
        isQueue(x, 0, 0);
        x.accept(0);
        isQueue(x, 0);
    }

    // Promise 10, "Returns the order": 0, and the last of 60.
    static void refuseReturnsTheOrder() {
        is("order 0", rankWithOrderThatIs(1).refuse(0), 0);
        TaxiRank x = new TaxiRank();
        for (int i = 0; i < 59; i++) {
            x.order(0, 0, 8, 0);
        }
        x.order(0, 0, 1, 0);
        addStarted(x, 1, 0);
        is("order 59", x.refuse(0), 59);
    }

    // Promise 10, "A cab refuses what is offered to it", and Terms, "that has refused it not yet": the order is
    // WAITING, and is never offered to this cab again, not after a stop and a start either.
    static void refusedOrderDoesNotComeBack() {
        TaxiRank x = rankWithOrderThatIs(1);
        x.refuse(0);
        isOrder(x, 0, 0, -1, -1, -1, 1);
        isCab(x, 0, 1, 0, 4, -1, 0);
        x.tick(1);
        isOffered(x, 0, -1);
        x.stop(0);
        x.start(0);
        isOrder(x, 0, 0, -1, -1, -1, 1);
        addStarted(x, 4, 5);
        isOrder(x, 0, 1, 1, -1, -1, 1);
    }

    // Promise 10, the mark *: both what it has refused and what it can take now are offered at once.
    static void refuseMakesTwoOffers() {
        TaxiRank x = new TaxiRank();
        addStarted(x, 4, 0);
        addStarted(x, 1, 0);
        x.order(0, 0, 1, 0);
        x.order(0, 0, 4, 0);
        isOffered(x, 1, -1);
        is("refuse", x.refuse(0), 0);
        isOrder(x, 0, 1, 1, -1, -1, 1);
        isOrder(x, 1, 1, 0, -1, -1, 0);
    }

    // Promise 10, "Throws IllegalStateException if nothing is offered to it": in each state, and after each end
    // of an offer.
    static void refuseOfNothing() {
        for (int state = 0; state <= 3; state++) {
            TaxiRank x = rankWithCabThatIs(state);
            fails(x, "refuse when it is " + state, STATE, () -> x.refuse(0));
        }
        TaxiRank refused = rankWithOrderThatIs(1);
        refused.refuse(0);
        fails(refused, "refuse twice", STATE, () -> refused.refuse(0));
        TaxiRank old = rankWithOrderThatIs(1);
        old.tick(2);
        fails(old, "refuse of an offer 2 minutes old", STATE, () -> old.refuse(0));
        isOrder(old, 0, 0, -1, -1, -1, 1);
        TaxiRank cancelled = rankWithOrderThatIs(5);
        fails(cancelled, "refuse after cancel", STATE, () -> cancelled.refuse(0));
        TaxiRank other = rankWith(2);
        other.order(0, 0, 1, 0);
        fails(other, "refuse of what is offered to another cab", STATE, () -> other.refuse(1));
    }

    // Promise 10, "Throws IndexOutOfBoundsException if there is no such cab".
    static void refuseOfNoCab() {
        TaxiRank x = rankWithOrderThatIs(1);
        failsWith(x, "refuse(?)", INDEX, n -> x.refuse(n), -1, 1, 10, LEAST, MOST);
        is("refuse(0)", x.refuse(0), 0);
    }

    // Promise 11, "Returns what it was: 0, 1 or 2".
    static void cancelReturnsWhatItWas() {
        for (int state = 0; state <= 2; state++) {
            TaxiRank x = rankWithOrderThatIs(state);
            is("cancel", x.cancel(0), state);
            isOrder(x, 0, 5, -1, -1, -1, 0);
            is("CANCELLED", x.count(7), 1);
        }
        TaxiRank y = rankWith(1);
        y.order(0, 0, 1, 9999);
        is("cancel of a preorder", y.cancel(0), 0);
    }

    // Promise 11, "Throws IllegalStateException if it is RIDING, DONE or CANCELLED".
    static void cancelTooLate() {
        for (int state = 3; state <= 5; state++) {
            TaxiRank x = rankWithOrderThatIs(state);
            is("its state", x.told(0, 0), state);
            fails(x, "cancel when it is " + state, STATE, () -> x.cancel(0));
        }
    }

    // Promise 11, "Throws IllegalStateException if it is RIDING": it can be cancelled until the minute in which
    // the ride begins.
    static void cancelAtTheLastMinute() {
        TaxiRank x = rankWithOrderThatIs(2);
        x.tick(4);
        is("last minute of the CALL", x.cancel(0), 2);
        isCab(x, 0, 1, 0, 4, -1, 0);
        is("no ride", x.tick(20), 0);
        TaxiRank y = rankWithOrderThatIs(2);
        y.tick(5);
        fails(y, "first minute of the ride", STATE, () -> y.cancel(0));
        is("it goes on", y.tick(10), 1);
    }

    // Promise 11, "If it was OFFERED, the offer is gone (and not refused)": the cab keeps its place in the queue,
    // no refusal is counted, and those from before stay.
    static void cancelOfAnOffer() {
        TaxiRank x = rankWith(3);
        x.order(0, 1, 1, 0);
        x.refuse(0);
        isQueue(x, 0, 1, 2, 0);
        isOffered(x, 0, 1);
        is("cancel", x.cancel(0), 1);
        isOrder(x, 0, 5, -1, -1, -1, 1);
        isQueue(x, 0, 1, 2, 0);
        isCab(x, 1, 1, 0, 4, -1, 0);
        x.tick(2);
        isOrder(x, 0, 5, -1, -1, -1, 1);
        isQueue(x, 0, 1, 2, 0);
    }

    // Promise 11, "if it was ACCEPTED, its cab is FREE at once, and comes to the end of the queue of the zone
    // where it accepted": not of the zone to which it was on the way.
    static void cancelOfAnAcceptedOrder() {
        TaxiRank x = rankWith(3);
        x.order(4, 1, 1, 0);
        x.accept(0);
        x.tick(3);
        is("cancel", x.cancel(0), 2);
        isCab(x, 0, 1, 0, 4, -1, 2);
        isQueue(x, 0, 1, 2, 0);
        isQueue(x, 4);
        isQueue(x, 1);
    }

    // Promise 11, "if it was ACCEPTED, its cab is FREE at once": also when it is there and waits for the due time.
    static void cancelWhileTheCabWaitsForTheDueTime() {
        TaxiRank x = rankWith(1);
        x.order(4, 1, 1, 15);
        x.accept(0);
        x.tick(14);
        is("cancel", x.cancel(0), 2);
        isCab(x, 0, 1, 0, 4, -1, 0);
        x.tick(20);
        isCab(x, 0, 1, 0, 4, -1, 0);
    }

    // Promise 11, the mark *: the cab of which the order was cancelled is offered the next one at once.
    static void cancelOffersTheNextOrder() {
        for (int state = 1; state <= 2; state++) {
            TaxiRank x = rankWithOrderThatIs(state);
            x.order(0, 1, 1, 0);
            isOffered(x, 1, -1);
            is("cancel", x.cancel(0), state);
            isOffered(x, 1, 0);
        }
    }

    // Promise 11, "An order is cancelled": it is offered to nobody any more.
    static void cancelledOrderIsNotOffered() {
        TaxiRank x = rankWithOrderThatIs(0);
        x.cancel(0);
        addStarted(x, 4, 0);
        isOrder(x, 0, 5, -1, -1, -1, 0);
        isCab(x, 0, 1, 0, 4, -1, 0);
        TaxiRank y = new TaxiRank();
        y.order(0, 0, 1, 20);
        y.cancel(0);
        addStarted(y, 4, 0);
        y.tick(20);
        isOrder(y, 0, 5, -1, -1, -1, 0);
    }

    // Promise 11, "Throws IndexOutOfBoundsException if there is no such order".
    static void cancelOfNoOrder() {
        TaxiRank x = rankWithOrderThatIs(1);
        failsWith(x, "cancel(?)", INDEX, n -> x.cancel(n), -1, 1, 60, LEAST, MOST);
        is("cancel(0)", x.cancel(0), 1);
    }

    // Promise 12, "or what is not 0 to 4": 0 and 4 are answered, -1 and 5 and what is beyond them are not.
    static void detailsOfAnOrder() {
        TaxiRank x = rankWithOrderThatIs(1);
        is("told(0, 0)", x.told(0, 0), 1);
        is("told(0, 4)", x.told(0, 4), 0);
        failsWith(x, "told(0, ?)", INDEX, n -> x.told(0, n), -1, 5, LEAST, MOST);
    }

    // Promise 12, "Throws IndexOutOfBoundsException if there is no such order", whatever is asked of it.
    static void toldOfNoOrder() {
        TaxiRank x = rankWithOrderThatIs(1);
        for (int what = -1; what <= 5; what++) {
            int asked = what;
            failsWith(x, "told(?, " + asked + ")", INDEX, n -> x.told(n, asked), -1, 1, 60, LEAST, MOST);
        }
    }

    // Promise 12, "0 how it is (0 to 5), 1 the cab to which it is offered, or that accepted it (also when it is
    // DONE), -1 if there is none, or it is CANCELLED": cab 0 is not none.
    static void howAnOrderIsAndItsCab() {
        int[] dueCabs = {-1, 0, 0, 0, 0, -1};
        for (int state = 0; state <= 5; state++) {
            TaxiRank x = rankWithOrderThatIs(state);
            is("how it is", x.told(0, 0), state);
            is("its cab when it is " + state, x.told(0, 1), dueCabs[state]);
        }
        TaxiRank y = rankWithOrderThatIs(2);
        y.cancel(0);
        is("its cab when what was accepted is cancelled", y.told(0, 1), -1);
    }

    // Promise 12, "1 the cab [...] that accepted it (also when it is DONE)": when the cab is OFF or on another
    // order, too.
    static void cabOfADoneOrder() {
        TaxiRank x = rankWithOrderThatIs(4);
        x.order(1, 0, 1, 15);
        x.accept(0);
        is("its cab is on another order", x.told(0, 1), 0);
        x.cancel(1);
        x.stop(0);
        is("its cab is OFF", x.told(0, 1), 0);
        is("the cancelled one has none", x.told(1, 1), -1);
    }

    // Promise 12, "2 the time at which its ride began, -1 if it has not, 3 the time at which it was DONE, -1 if
    // it is not": to the minute, and in each state.
    static void timesOfAnOrder() {
        int[] begun = {-1, -1, -1, 5, 5, -1};
        int[] done = {-1, -1, -1, -1, 15, -1};
        for (int state = 0; state <= 5; state++) {
            TaxiRank x = rankWithOrderThatIs(state);
            is("begun when it is " + state, x.told(0, 2), begun[state]);
            is("done when it is " + state, x.told(0, 3), done[state]);
        }
        TaxiRank y = rankWithOrderThatIs(2);
        y.tick(4);
        isOrder(y, 0, 2, 0, -1, -1, 0);
        y.tick(1);
        isOrder(y, 0, 3, 0, 5, -1, 0);
        y.tick(9);
        isOrder(y, 0, 3, 0, 5, -1, 0);
        y.tick(1);
        isOrder(y, 0, 4, 0, 5, 15, 0);
        y.tick(300);
        isOrder(y, 0, 4, 0, 5, 15, 0);
    }

    // Promise 12, "4 how many cabs have refused it": from none to all ten, by refuse, by stop and by 2 minutes.
    static void howManyHaveRefused() {
        TaxiRank x = rankWith(10);
        x.order(0, 0, 1, 0);
        for (int i = 0; i < 10; i++) {
            isOrder(x, 0, 1, i, -1, -1, i);
            if (i % 3 == 0) {
                x.refuse(i);
            } else if (i % 3 == 1) {
                x.stop(i);
            } else {
                x.tick(2);
            }
        }
        isOrder(x, 0, 0, -1, -1, -1, 10);
    }

    // Promise 13, "Throws IndexOutOfBoundsException if there is no such order, or part is not 0 to 4".
    static void fareOfNoOrderOrPart() {
        TaxiRank x = rankWithOrderThatIs(3);
        for (int part = -1; part <= 5; part++) {
            int asked = part;
            failsWith(x, "fare(?, " + asked + ")", INDEX, n -> x.fare(n, asked), -1, 1, 60, LEAST, MOST);
        }
        failsWith(x, "fare(0, ?)", INDEX, n -> x.fare(0, n), -1, 5, LEAST, MOST);
        is("fare(0, 0)", x.fare(0, 0), 4);
        is("fare(0, 4)", x.fare(0, 4), 31);
    }

    // Promise 13, "0 if it has not begun": WAITING, OFFERED, ACCEPTED, CANCELLED, to the last minute of the CALL.
    static void fareAheadOfTheRide() {
        for (int state : new int[] {0, 1, 2, 5}) {
            isFare(rankWithOrderThatIs(state), 0, 0, 0, 0, 0);
        }
        TaxiRank x = rankWithOrderThatIs(2);
        x.tick(4);
        isFare(x, 0, 0, 0, 0, 0);
        x.tick(1);
        isFare(x, 0, 4, 20, -5, 12);
        TaxiRank y = rankWithOrderThatIs(2);
        y.tick(4);
        y.cancel(0);
        y.tick(20);
        isFare(y, 0, 0, 0, 0, 0);
    }

    // Promise 13, "by the rates and ways at the time at which its ride began": what is set a minute ahead of it
    // counts, what is set after it does not, nor when it is DONE.
    static void fareByTheRatesOfTheBeginning() {
        TaxiRank x = rankWithOrderThatIs(1);
        x.setRates(90, 19);
        x.accept(0);
        x.setRates(80, 18);
        x.tick(4);
        x.setRates(7, 3);
        x.setWay(0, 1, 11);
        x.tick(1);
        isFare(x, 0, 7, 33, -5, 20);
        x.setRates(70, 17);
        x.setWay(0, 1, 2);
        isFare(x, 0, 7, 33, -5, 20);
        is("still riding", x.tick(10), 0);
        is("DONE", x.tick(1), 1);
        isFare(x, 0, 7, 33, -5, 20);
    }

    // Promise 13, "2 waiting", and Terms, "1 for each minute by which the ride begins later than its due time is
    // taken off, but at most 5 (this part is 0 or less)".
    static void waitingFromNoneToTheMost() {
        int[] late = {0, 1, 2, 3, 4, 5, 6, 7, 120};
        int[] due = {0, -1, -2, -3, -4, -5, -5, -5, -5};
        for (int i = 0; i < late.length; i++) {
            isFare(ride(4, 2, 10, 400, late[i]), 0, 4, 20, due[i], 0);
        }
    }

    // Promise 13, "2 waiting": a ride that waits for its due time begins on time, so nothing is taken off.
    static void noWaitingOfAPreorder() {
        for (int due = 9; due <= 11; due++) {
            TaxiRank x = rankWith(1);
            x.order(1, 2, 1, due);
            x.accept(0);
            x.tick(12);
            is("begun", x.told(0, 2), Math.max(due, 10));
            is("waiting", x.fare(0, 2), due == 9 ? -1 : 0);
        }
    }

    // Promise 13, "3 night", and Terms, "if the ride begins when the time modulo 1440 is less than 360": the
    // edges of each night of all days that there are.
    static void nightByTheMinute() {
        for (int day = 0; day <= 8640; day += 1440) {
            isFare(ride(4, 2, 10, day + 359, 0), 0, 4, 20, 0, 12);
            isFare(ride(4, 2, 10, day + 360, 0), 0, 4, 20, 0, 0);
            if (day > 0) {
                isFare(ride(4, 2, 10, day - 1, 0), 0, 4, 20, 0, 0);
                isFare(ride(4, 2, 10, day, 0), 0, 4, 20, 0, 12);
            }
        }
        isFare(ride(4, 2, 10, 5, 0), 0, 4, 20, 0, 12);
        isFare(ride(4, 2, 10, 9999, 0), 0, 4, 20, 0, 0);
    }

    // Promise 13, "3 night": it is when the ride begins that counts, not when it was due, nor when it ends.
    static void nightByTheBeginningAlone() {
        isFare(ride(4, 2, 10, 361, 5), 0, 4, 20, -5, 0);
        isFare(ride(4, 2, 10, 1442, 5), 0, 4, 20, -5, 12);
        TaxiRank x = ride(4, 2, 10, 359, 0);
        x.tick(10);
        isFare(x, 0, 4, 20, 0, 12);
        TaxiRank y = ride(4, 2, 10, 1439, 0);
        y.tick(10);
        isFare(y, 0, 4, 20, 0, 0);
    }

    // Promise 13, "3 night", and Terms, "half of the base and the way together (cut towards 0)": together, of an
    // odd sum the smaller half, and without what is taken off for waiting.
    static void nightIsHalfOfBaseAndWayTogether() {
        isFare(ride(5, 1, 7, 100, 0), 0, 5, 7, 0, 6);
        isFare(ride(5, 2, 7, 100, 0), 0, 5, 14, 0, 9);
        isFare(ride(4, 1, 7, 100, 0), 0, 4, 7, 0, 5);
        isFare(ride(1, 0, 7, 100, 0), 0, 1, 0, 0, 0);
        isFare(ride(0, 0, 7, 100, 0), 0, 0, 0, 0, 0);
        isFare(ride(4, 2, 10, 100, 5), 0, 4, 20, -5, 12);
        isFare(ride(0, 0, 7, 100, 5), 0, 0, 0, -5, 0);
    }

    // Promise 13, "1 the way", and Terms, "a rate [...] times the minutes of the ride": within a zone 5 minutes,
    // and neither the way of the CALL nor the wait for the due time counts.
    static void wayOfTheRideAlone() {
        TaxiRank x = rankWith(1);
        x.setWay(0, 3, 120);
        x.order(3, 3, 1, 0);
        x.accept(0);
        x.tick(120);
        is("within a zone", x.fare(0, 1), 10);
        TaxiRank y = rankWith(1);
        y.setWay(0, 1, 3);
        y.setWay(1, 2, 4);
        y.order(1, 2, 1, 15);
        y.accept(0);
        y.tick(15);
        is("after the wait", y.fare(0, 1), 8);
    }

    // Promise 13, "4 all", and Terms, "The fare is the sum of the four parts": also when it is less than 0.
    static void wholeFareFromTheLeastToTheMost() {
        is("least", ride(0, 0, 1, 100, 9).fare(0, 4), -5);
        is("none", ride(0, 0, 120, 100, 0).fare(0, 4), 0);
        is("most", ride(100, 20, 120, 100, 0).fare(0, 4), 3750);
    }

    public static void main(String[] args) {
        runTestsOf(OrderBoundaryTests.class);
    }
}
