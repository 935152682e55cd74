/** The boundary cases of promises 1 to 7; the remark of each test names the sentence that it is for. */
public final class ZoneCabRateBoundaryTests extends Checks {
    // Promise 1, "Creates a rank without cabs and orders": not even cab 0 is there.
    static void newRankHasNoCab() {
        TaxiRank x = new TaxiRank();
        is("cabs", x.count(0), 0);
        fails(x, "start(0)", INDEX, () -> x.start(0));
        fails(x, "stop(0)", INDEX, () -> x.stop(0));
        fails(x, "cab(0, 0)", INDEX, () -> x.cab(0, 0));
        fails(x, "accept(0)", INDEX, () -> x.accept(0));
        fails(x, "refuse(0)", INDEX, () -> x.refuse(0));
        fails(x, "money(0, true)", INDEX, () -> x.money(0, true));
        fails(x, "money(0, false)", INDEX, () -> x.money(0, false));
        fails(x, "settle(0)", INDEX, () -> x.settle(0));
        for (int zone = 0; zone < 6; zone++) {
            isQueue(x, zone);
            is("nearest", x.nearest(zone, 1), -1);
        }
    }

    // Promise 1, "Creates a rank without cabs and orders": not even order 0 is there.
    static void newRankHasNoOrder() {
        TaxiRank x = new TaxiRank();
        for (int what = 1; what <= 7; what++) {
            is("count(" + what + ")", x.count(what), 0);
        }
        fails(x, "cancel(0)", INDEX, () -> x.cancel(0));
        fails(x, "told(0, 0)", INDEX, () -> x.told(0, 0));
        fails(x, "fare(0, 0)", INDEX, () -> x.fare(0, 0));
        isD("lateness", x.lateness(), 0.0);
        is("tick", x.tick(300), 0);
    }

    // Promise 1, "Creates a rank": what one rank does changes no other one.
    static void ranksShareNothing() {
        TaxiRank x = new TaxiRank();
        TaxiRank y = rankWithOrderThatIs(4);
        y.setWay(0, 1, 99);
        y.setRates(50, 9);
        is("way", wayOf(x, 0, 1), 10);
        is("base", x.setRates(4, 2), 4);
        is("now", x.now(), 0);
        is("cabs", x.count(0), 0);
        is("orders", x.count(1), 0);
        is("digest", x.digest(), new TaxiRank().digest());
    }

    // Promise 2, "Sets the minutes of the way between two zones": each pair, 0 and 5 too, has its own.
    static void eachPairOfZonesHasItsOwnWay() {
        TaxiRank x = new TaxiRank();
        for (int a = 0; a < 6; a++) {
            for (int b = a + 1; b < 6; b++) {
                is("way at first", x.setWay(a, b, 20 + a * 6 + b), 10);
            }
        }
        for (int a = 0; a < 6; a++) {
            for (int b = 0; b < 6; b++) {
                if (a != b) {
                    is("way of " + a + " and " + b, wayOf(x, a, b), 20 + Math.min(a, b) * 6 + Math.max(a, b));
                }
            }
        }
    }

    // Promise 2, "Returns the minutes before": those at first, the ones last set, and the same again.
    static void setWayReturnsTheMinutesBefore() {
        TaxiRank x = new TaxiRank();
        is("at first", x.setWay(3, 4, 8), 10);
        is("set", x.setWay(3, 4, 8), 8);
        is("the same again", x.setWay(4, 3, 9), 8);
        is("set the other way round", x.setWay(3, 4, 10), 9);
    }

    // Promise 2, "minutes is not 1 to 120": 1 and 120 are taken, and take a cab so long.
    static void leastAndMostMinutesAreDriven() {
        for (int minutes : new int[] {1, 2, 119, 120}) {
            TaxiRank x = rankWith(1);
            x.setWay(5, 0, minutes);
            x.order(5, 0, 1, 0);
            is("accept", x.accept(0), minutes);
            pass(x, minutes - 1);
            is("on CALL", x.cab(0, 0), 2);
            x.tick(1);
            is("BUSY", x.cab(0, 0), 3);
            pass(x, minutes - 1);
            is("still BUSY", x.cab(0, 0), 3);
            is("DONE", x.tick(1), 1);
            is("now", x.now(), 2 * minutes);
        }
    }

    // Promise 2, "minutes is not 1 to 120": 0 and 121 and what is beyond them are refused, and set nothing.
    static void tooFewAndTooManyMinutes() {
        TaxiRank x = new TaxiRank();
        x.setWay(0, 5, 33);
        failsWith(x, "setWay(0, 5, ?)", ARGUMENT, n -> x.setWay(0, 5, n), 0, 121, -1, -10, 1000, LEAST, MOST);
        is("as before", wayOf(x, 0, 5), 33);
        is("as before, back", wayOf(x, 5, 0), 33);
    }

    // Promise 2, "Throws IllegalArgumentException if a and b are the same": so within every zone it stays 5.
    static void noWayIsSetWithinAZone() {
        TaxiRank x = new TaxiRank();
        failsWith(x, "setWay(?, ?, 7)", ARGUMENT, n -> x.setWay(n, n, 7), 0, 1, 2, 3, 4, 5);
        failsWith(x, "setWay(2, 2, ?)", ARGUMENT, n -> x.setWay(2, 2, n), 0, 5, 121);
        for (int zone = 0; zone < 6; zone++) {
            addStarted(x, 1, zone);
            is("within zone " + zone, x.nearest(zone, 1), 5);
            is("another way", wayOf(x, zone, (zone + 1) % 6), 10);
        }
    }

    // Promise 2, "Throws IndexOutOfBoundsException if there is no such zone": for a, for b, for both.
    static void setWayOfNoZone() {
        TaxiRank x = new TaxiRank();
        failsWith(x, "setWay(?, 0, 7)", INDEX, n -> x.setWay(n, 0, 7), -1, 6, LEAST, MOST);
        failsWith(x, "setWay(0, ?, 7)", INDEX, n -> x.setWay(0, n, 7), -1, 6, LEAST, MOST);
        failsWith(x, "setWay(5, ?, 7)", INDEX, n -> x.setWay(5, n, 7), -1, 6, LEAST, MOST);
        failsWith(x, "setWay(?, ?, 7)", INDEX, n -> x.setWay(n, n, 7), -1, 6, LEAST, MOST);
        fails(x, "setWay(1, -1, 7)", INDEX, () -> x.setWay(1, -1, 7));
        fails(x, "setWay(-1, 6, 7)", INDEX, () -> x.setWay(-1, 6, 7));
        for (int a = 0; a < 6; a++) {
            for (int b = a + 1; b < 6; b++) {
                is("a way", wayOf(x, a, b), 10);
            }
        }
    }

    // Terms, "If several exceptions apply, the one that is named first is thrown", for promise 2.
    static void setWayOfNoZoneIsNamedFirst() {
        TaxiRank x = new TaxiRank();
        failsWith(x, "setWay(?, ?, 0)", INDEX, n -> x.setWay(n, n, 0), -1, 6);
        failsWith(x, "setWay(0, 6, ?)", INDEX, n -> x.setWay(0, 6, n), 0, 121, LEAST, MOST);
        failsWith(x, "setWay(-1, 0, ?)", INDEX, n -> x.setWay(-1, 0, n), 0, 121, LEAST, MOST);
    }

    // Promise 3, "seats is not 1 to 8": 1 and 8 are taken, and so many passengers and no more find a place.
    static void leastAndMostSeats() {
        TaxiRank x = new TaxiRank();
        is("a cab of 1", addStarted(x, 1, 0), 0);
        is("a cab of 8", addStarted(x, 8, 5), 1);
        is("seats of 0", x.cab(0, 2), 1);
        is("seats of 1", x.cab(1, 2), 8);
        isOffered(x, x.order(0, 0, 8, 0), 1);
        isOffered(x, x.order(0, 0, 2, 0), -1);
        isOffered(x, x.order(0, 0, 1, 0), 0);
    }

    // Promise 3, "Throws IllegalArgumentException if seats is not 1 to 8": 0 and 9 and what is beyond them.
    static void tooFewAndTooManySeats() {
        TaxiRank x = new TaxiRank();
        failsWith(x, "addCab(?, 0)", ARGUMENT, n -> x.addCab(n, 0), 0, 9, -1, LEAST, MOST);
        failsWith(x, "addCab(?, 5)", ARGUMENT, n -> x.addCab(n, 5), 0, 9);
        is("cabs", x.count(0), 0);
    }

    // Promise 3, "or zone is not 0 to 5": 0 and 5 are taken; beside them it is no IndexOutOfBoundsException.
    static void zonesOfNewCabs() {
        TaxiRank x = new TaxiRank();
        failsWith(x, "addCab(4, ?)", ARGUMENT, n -> x.addCab(4, n), -1, 6, LEAST, MOST);
        fails(x, "addCab(0, 6)", ARGUMENT, () -> x.addCab(0, 6));
        for (int zone = 0; zone < 6; zone++) {
            is("addCab", x.addCab(4, zone), zone);
            is("its zone", x.cab(zone, 1), zone);
        }
    }

    // Promise 3, "Throws IllegalStateException if there are 10 cabs": the tenth is the last, OFF ones count too.
    static void tenthCabIsTheLast() {
        TaxiRank x = new TaxiRank();
        for (int i = 0; i < 10; i++) {
            is("addCab", x.addCab(4, 0), i);
        }
        failsWith(x, "addCab(?, 0)", STATE, n -> x.addCab(n, 0), 1, 8);
        for (int i = 0; i < 10; i++) {
            x.start(i);
        }
        fails(x, "addCab to 10 FREE cabs", STATE, () -> x.addCab(4, 5));
        x.stop(9);
        fails(x, "addCab when one is stopped", STATE, () -> x.addCab(4, 5));
        is("cabs", x.count(0), 10);
        failsWith(x, "cab(?, 0)", INDEX, n -> x.cab(n, 0), 10, 11);
    }

    // Terms, "If several exceptions apply, the one that is named first is thrown", for promise 3.
    static void wrongCabIsNamedAheadOfTenCabs() {
        TaxiRank x = new TaxiRank();
        for (int i = 0; i < 10; i++) {
            x.addCab(4, 0);
        }
        failsWith(x, "addCab(?, 0)", ARGUMENT, n -> x.addCab(n, 0), 0, 9);
        failsWith(x, "addCab(4, ?)", ARGUMENT, n -> x.addCab(4, n), -1, 6);
    }

    // Promise 3, "Returns its number", and Terms, "numbered from 0 in the order of their creation":
    // a refused call takes none.
    static void refusedCabTakesNoNumber() {
        TaxiRank x = new TaxiRank();
        fails(x, "addCab(9, 0)", ARGUMENT, () -> x.addCab(9, 0));
        is("first", x.addCab(3, 2), 0);
        fails(x, "addCab(3, 6)", ARGUMENT, () -> x.addCab(3, 6));
        is("second", x.addCab(7, 4), 1);
        isCab(x, 0, 0, 2, 3, -1, -1);
        isCab(x, 1, 0, 4, 7, -1, -1);
    }

    // Terms, "New cabs are OFF", for promise 3: so they stand in no queue and take no order.
    static void newCabIsOff() {
        TaxiRank x = new TaxiRank();
        x.order(0, 0, 1, 0);
        x.addCab(4, 0);
        isCab(x, 0, 0, 0, 4, -1, -1);
        isQueue(x, 0);
        isOffered(x, 0, -1);
        x.tick(1);
        isOffered(x, 0, -1);
    }

    // Promise 4, "Returns its place in the queue, from 0": from the first of an empty queue to the tenth.
    static void startReturnsPlacesFromFirstToTenth() {
        TaxiRank x = new TaxiRank();
        for (int i = 0; i < 10; i++) {
            x.addCab(4, 3);
        }
        for (int i = 0; i < 10; i++) {
            is("start", x.start(9 - i), i);
        }
        isQueue(x, 3, 9, 8, 7, 6, 5, 4, 3, 2, 1, 0);
    }

    // Promise 4, "comes to the end of the queue of its zone": cabs of other zones, and cabs that have left
    // the queue, do not count.
    static void startCountsItsOwnQueueAlone() {
        TaxiRank x = rankWith(2);
        x.addCab(4, 1);
        x.addCab(4, 0);
        x.addCab(4, 0);
        is("start in an empty zone", x.start(2), 0);
        x.order(0, 0, 1, 0);
        x.accept(0);
        is("start behind one", x.start(3), 1);
        x.stop(1);
        is("start behind one again", x.start(4), 1);
        isQueue(x, 0, 3, 4);
    }

    // Promise 4, "A cab that is OFF becomes FREE": also one that was stopped, which then comes to the end.
    static void stoppedCabStartsAgainAtTheEnd() {
        TaxiRank x = rankWith(3);
        x.stop(0);
        isCab(x, 0, 0, 0, 4, -1, -1);
        is("start again", x.start(0), 2);
        isCab(x, 0, 1, 0, 4, -1, 2);
        isQueue(x, 0, 1, 2, 0);
    }

    // Promise 4, the mark *: the cab is offered a WAITING order at once, and its place is in the queue still.
    static void startedCabIsOfferedAnOrderAtOnce() {
        TaxiRank x = new TaxiRank();
        x.order(5, 0, 4, 0);
        x.addCab(4, 0);
        is("start", x.start(0), 0);
        isCab(x, 0, 1, 0, 4, 0, 0);
        isOffered(x, 0, 0);
    }

    // Promise 4, "Throws IndexOutOfBoundsException if there is no such cab".
    static void startOfNoCab() {
        TaxiRank x = new TaxiRank();
        x.addCab(4, 0);
        failsWith(x, "start(?)", INDEX, n -> x.start(n), -1, 1, 10, LEAST, MOST);
        is("start(0)", x.start(0), 0);
    }

    // Promise 4, "Throws IllegalStateException if it is not OFF": FREE, on CALL, BUSY, or FREE with an offer.
    static void startOfACabThatIsNotOff() {
        for (int state = 1; state <= 3; state++) {
            TaxiRank x = rankWithCabThatIs(state);
            is("its state", x.cab(0, 0), state);
            fails(x, "start", STATE, () -> x.start(0));
        }
        TaxiRank y = rankWithOrderThatIs(1);
        fails(y, "start with an offer", STATE, () -> y.start(0));
        TaxiRank z = rankWithOrderThatIs(4);
        fails(z, "start after a ride", STATE, () -> z.start(0));
    }

    // Promise 4, "Throws IllegalStateException if it is not OFF": a refused start leaves the first one first.
    static void refusedStartLeavesTheQueue() {
        TaxiRank x = rankWith(2);
        fails(x, "start(0)", STATE, () -> x.start(0));
        isQueue(x, 0, 0, 1);
        isOffered(x, x.order(0, 0, 1, 0), 0);
    }

    // Promise 5, "Returns its zone": each one from 0 to 5, and after a ride the one where it ended.
    static void stopReturnsTheZone() {
        TaxiRank x = new TaxiRank();
        for (int zone = 0; zone < 6; zone++) {
            addStarted(x, 4, zone);
            is("stop", x.stop(zone), zone);
            is("zone of the OFF cab", x.cab(zone, 1), zone);
        }
        TaxiRank y = rankWithOrderThatIs(4);
        is("stop after a ride", y.stop(0), 1);
    }

    // Promise 5, "A cab that is FREE becomes OFF": the first, a middle and the last one leave the queue so.
    static void stopAtEachPlaceOfTheQueue() {
        TaxiRank x = rankWith(4);
        x.stop(1);
        isQueue(x, 0, 0, 2, 3);
        x.stop(0);
        isQueue(x, 0, 2, 3);
        x.stop(3);
        isQueue(x, 0, 2);
        x.stop(2);
        isQueue(x, 0);
        isCab(x, 2, 0, 0, 4, -1, -1);
        is("cabs", x.count(0), 4);
    }

    // Promise 5, "What is offered to it is refused": it counts as refused, and waits if no other cab is there.
    static void stopOfTheOnlyCabRefuses() {
        TaxiRank x = rankWithOrderThatIs(1);
        is("stop", x.stop(0), 0);
        isCab(x, 0, 0, 0, 4, -1, -1);
        isOrder(x, 0, 0, -1, -1, -1, 1);
        x.start(0);
        isOrder(x, 0, 0, -1, -1, -1, 1);
        isCab(x, 0, 1, 0, 4, -1, 0);
    }

    // Promise 5, the mark *: what a stopped cab leaves is offered to the next one at once.
    static void stopOffersTheOrderToTheNext() {
        TaxiRank x = rankWith(2);
        x.order(0, 0, 1, 0);
        is("stop", x.stop(0), 0);
        isOrder(x, 0, 1, 1, -1, -1, 1);
    }

    // Promise 5, "What is offered to it is refused": nothing is, if nothing is offered to it.
    static void stopWithoutAnOfferRefusesNothing() {
        TaxiRank x = rankWith(2);
        x.order(0, 0, 1, 0);
        x.stop(1);
        isOrder(x, 0, 1, 0, -1, -1, 0);
        x.start(1);
        x.refuse(0);
        isOrder(x, 0, 1, 1, -1, -1, 1);
    }

    // Promise 5, "Throws IndexOutOfBoundsException if there is no such cab".
    static void stopOfNoCab() {
        TaxiRank x = rankWith(1);
        failsWith(x, "stop(?)", INDEX, n -> x.stop(n), -1, 1, 10, LEAST, MOST);
        is("stop(0)", x.stop(0), 0);
    }

    // Promise 5, "Throws IllegalStateException if it is not FREE": OFF, on CALL, BUSY; twice.
    static void stopOfACabThatIsNotFree() {
        for (int state : new int[] {0, 2, 3}) {
            TaxiRank x = rankWithCabThatIs(state);
            is("its state", x.cab(0, 0), state);
            fails(x, "stop", STATE, () -> x.stop(0));
        }
        TaxiRank y = rankWith(1);
        y.stop(0);
        fails(y, "stop twice", STATE, () -> y.stop(0));
    }

    // Promise 6, "base is not 0 to 100, or rate is not 0 to 20": the least and the most are taken, and metered.
    static void leastAndMostRates() {
        isFare(ride(0, 0, 120, 400, 0), 0, 0, 0, 0, 0);
        isFare(ride(0, 20, 120, 400, 0), 0, 0, 2400, 0, 0);
        isFare(ride(100, 0, 120, 400, 0), 0, 100, 0, 0, 0);
        isFare(ride(100, 20, 120, 400, 0), 0, 100, 2400, 0, 0);
        isFare(ride(1, 1, 1, 400, 0), 0, 1, 1, 0, 0);
    }

    // Promise 6, "Throws IllegalArgumentException if base is not 0 to 100": -1 and 101 and what is beyond them.
    static void baseTooSmallOrTooLarge() {
        TaxiRank x = new TaxiRank();
        failsWith(x, "setRates(?, 2)", ARGUMENT, n -> x.setRates(n, 2), -1, 101, LEAST, MOST);
        is("base as before", x.setRates(4, 2), 4);
    }

    // Promise 6, "or rate is not 0 to 20": -1 and 21 and what is beyond them.
    static void rateTooSmallOrTooLarge() {
        TaxiRank x = new TaxiRank();
        failsWith(x, "setRates(4, ?)", ARGUMENT, n -> x.setRates(4, n), -1, 21, LEAST, MOST);
        fails(x, "setRates(101, 21)", ARGUMENT, () -> x.setRates(101, 21));
        is("base as before", x.setRates(4, 2), 4);
    }

    // Terms, "A method that throws an exception changes nothing", for promise 6: neither base nor rate is set
    // when the other one is wrong.
    static void refusedRatesSetNeither() {
        TaxiRank x = rankWithOrderThatIs(2);
        x.setRates(6, 3);
        fails(x, "setRates(50, 21)", ARGUMENT, () -> x.setRates(50, 21));
        fails(x, "setRates(101, 9)", ARGUMENT, () -> x.setRates(101, 9));
        x.tick(5);
        isFare(x, 0, 6, 30, -5, 18);
        is("base as before", x.setRates(4, 2), 6);
    }

    // Promise 6, "Returns the base before", which is 4 at first (Terms), and not the rate.
    static void setRatesReturnsTheBaseBefore() {
        TaxiRank x = new TaxiRank();
        is("at first", x.setRates(0, 20), 4);
        is("least", x.setRates(100, 0), 0);
        is("most", x.setRates(100, 7), 100);
        is("the same again", x.setRates(4, 2), 100);
    }

    // Promise 7, "or what is not 0 to 4": 0 and 4 are answered, -1 and 5 and what is beyond them are not.
    static void detailsOfACab() {
        TaxiRank x = rankWith(2);
        is("cab(1, 0)", x.cab(1, 0), 1);
        is("cab(1, 4)", x.cab(1, 4), 1);
        failsWith(x, "cab(1, ?)", INDEX, n -> x.cab(1, n), -1, 5, LEAST, MOST);
    }

    // Promise 7, "Throws IndexOutOfBoundsException if there is no such cab", whatever is asked of it.
    static void cabOfNoNumber() {
        TaxiRank x = rankWith(2);
        for (int what = -1; what <= 5; what++) {
            int asked = what;
            failsWith(x, "cab(?, " + asked + ")", INDEX, n -> x.cab(n, asked), -1, 2, 10, LEAST, MOST);
        }
    }

    // Promise 7, "0 what it is doing (OFF 0, FREE 1, CALL 2, BUSY 3)", each with its first and last minute.
    static void whatACabIsDoingByTheMinute() {
        TaxiRank x = rankWithCabThatIs(0);
        is("new", x.cab(0, 0), 0);
        x.start(0);
        is("started", x.cab(0, 0), 1);
        x.order(1, 2, 1, 0);
        is("with an offer", x.cab(0, 0), 1);
        x.accept(0);
        is("accepted", x.cab(0, 0), 2);
        x.tick(9);
        is("last minute of the CALL", x.cab(0, 0), 2);
        x.tick(1);
        is("first minute of the ride", x.cab(0, 0), 3);
        x.tick(9);
        is("last minute of the ride", x.cab(0, 0), 3);
        x.tick(1);
        is("there", x.cab(0, 0), 1);
        x.stop(0);
        is("stopped", x.cab(0, 0), 0);
    }

    // Promise 7, "1 its zone (while it is on CALL, the one where it accepted; while it is BUSY, the one where
    // the ride began)", to the last minute of each, and while it waits for the due time.
    static void zoneOfACabByTheMinute() {
        TaxiRank x = new TaxiRank();
        addStarted(x, 4, 5);
        x.order(3, 1, 1, 12);
        x.accept(0);
        is("accepted", x.cab(0, 1), 5);
        x.tick(10);
        is("there ahead of the due time", x.cab(0, 1), 5);
        x.tick(1);
        is("last minute ahead of the due time", x.cab(0, 1), 5);
        x.tick(1);
        is("first minute of the ride", x.cab(0, 1), 3);
        x.tick(9);
        is("last minute of the ride", x.cab(0, 1), 3);
        x.tick(1);
        is("where the ride ended", x.cab(0, 1), 1);
    }

    // Promise 7, "3 the order that is offered to it, or that it has accepted and not done, -1 for none":
    // order 0 is not none, and each end of it is -1.
    static void orderOfACab() {
        int[] due = {-1, 0, 0, 0, -1, -1};
        for (int state = 1; state <= 5; state++) {
            is("when the order is " + state, rankWithOrderThatIs(state).cab(0, 3), due[state]);
        }
        TaxiRank x = rankWithOrderThatIs(1);
        x.refuse(0);
        is("when it has refused", x.cab(0, 3), -1);
        TaxiRank y = rankWithOrderThatIs(2);
        y.cancel(0);
        is("when what it has accepted is cancelled", y.cab(0, 3), -1);
        is("of a new cab", rankWithCabThatIs(0).cab(0, 3), -1);
    }

    // Promise 7, "3 the order that is offered to it": the last of 60.
    static void lastOrderOfACab() {
        TaxiRank x = new TaxiRank();
        for (int i = 0; i < 59; i++) {
            x.order(0, 0, 8, 0);
        }
        x.order(0, 0, 1, 0);
        addStarted(x, 1, 0);
        is("offered", x.cab(0, 3), 59);
        x.accept(0);
        is("accepted", x.cab(0, 3), 59);
    }

    // Promise 7, "4 its place in the queue, from 0, -1 if it is not FREE": OFF, on CALL, BUSY.
    static void placeOfACab() {
        int[] due = {-1, 0, -1, -1};
        for (int state = 0; state <= 3; state++) {
            is("when it is " + state, rankWithCabThatIs(state).cab(0, 4), due[state]);
        }
        TaxiRank x = rankWith(10);
        for (int i = 0; i < 10; i++) {
            is("place of " + i, x.cab(i, 4), i);
        }
        x.order(0, 0, 1, 0);
        is("with an offer", x.cab(0, 4), 0);
        x.accept(0);
        is("the next one", x.cab(1, 4), 0);
        is("the last one", x.cab(9, 4), 8);
    }

    public static void main(String[] args) {
        runTestsOf(ZoneCabRateBoundaryTests.class);
    }
}
