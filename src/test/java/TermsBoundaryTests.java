/**
 * The boundary cases of what the document says under "Terms", which more than one promise rests on; the remark
 * of each test names the sentence, and the promises that it is for.
 */
public final class TermsBoundaryTests extends Checks {
    // Terms, "10 at first" and "within a zone it takes 5", for promises 9 and 21: of each pair of zones, no way
    // set.
    static void waysAtFirst() {
        for (int zone = 0; zone < 6; zone++) {
            TaxiRank x = new TaxiRank();
            addStarted(x, 1, zone);
            for (int other = 0; other < 6; other++) {
                is("nearest to " + other, x.nearest(other, 1), other == zone ? 5 : 10);
            }
            x.order(5 - zone, zone, 1, 0);
            is("accept", x.accept(0), 10);
            is("BUSY and DONE", x.tick(20), 1);
        }
    }

    // Terms, "the same both ways", for promises 2, 9 and 13: a way set from a to b is that of the CALL from a to b,
    // of the ride back, and of the offers.
    static void wayIsTheSameBothWays() {
        TaxiRank x = rankWith(1);
        x.setWay(5, 0, 17);
        is("there", x.nearest(5, 1), 17);
        x.order(5, 0, 1, 0);
        is("accept", x.accept(0), 17);
        x.tick(17);
        is("fare of the way back", x.fare(0, 1), 34);
        is("not there", x.tick(16), 0);
        is("there", x.tick(1), 1);
    }

    // Terms, "The queue of a zone are its FREE cabs, in the order in which they came to be FREE there", for promises
    // 4, 7 and 16: a ride that ends comes behind a cab that was started a minute ahead, and ahead of a later one.
    static void queueByTheTimeOfBecomingFree() {
        TaxiRank x = rankWith(3);
        x.order(0, 1, 1, 0);
        x.accept(0);
        x.addCab(4, 1);
        x.addCab(4, 1);
        x.tick(14);
        x.start(4);
        x.tick(1);
        x.start(3);
        isQueue(x, 1, 4, 0, 3);
        isQueue(x, 0, 1, 2);
        is("place of 0", x.cab(0, 4), 1);
    }

    // Terms, "The queue of a zone are its FREE cabs", for promise 16: a cab with an offer keeps its place, one on
    // CALL, BUSY or OFF has none.
    static void queueHoldsFreeCabsAlone() {
        TaxiRank x = rankWith(4);
        x.order(0, 1, 1, 0);
        x.order(0, 1, 1, 0);
        isQueue(x, 0, 0, 1, 2, 3);
        x.accept(1);
        isQueue(x, 0, 0, 2, 3);
        x.stop(2);
        isQueue(x, 0, 0, 3);
        x.accept(0);
        x.tick(5);
        isQueue(x, 0, 3);
        isQueue(x, 1);
    }

    // Terms, "the desk looks at it from 15 minutes ahead of its due time on", for promises 8 and 14: not 16 minutes
    // ahead, from 15 on at the end of that very minute; the last order that there can be, too.
    static void preorderFromFifteenMinutesAhead() {
        for (int due : new int[] {16, 17, 100, 1440, 9999}) {
            TaxiRank x = rankWith(1);
            x.order(0, 1, 1, due);
            isOffered(x, 0, -1);
            pass(x, due - 16);
            isOffered(x, 0, -1);
            x.tick(1);
            is("now", x.now(), due - 15);
            isOffered(x, 0, 0);
        }
    }

    // Terms, "the desk looks at it from 15 minutes ahead of its due time on", for promise 4: "on" is ahead of the
    // due time, at it, and long after it.
    static void preorderIsLookedAtLaterToo() {
        for (int start : new int[] {25, 39, 40, 41, 300}) {
            TaxiRank x = new TaxiRank();
            x.addCab(4, 0);
            x.order(0, 1, 1, 40);
            x.tick(start);
            isOffered(x, 0, -1);
            x.start(0);
            isOffered(x, 0, 0);
        }
    }

    // Terms, "One that is due later than now is a preorder", for promises 5 and 10: what the desk does not look at
    // yet is not offered at the end of the other calls either.
    static void preorderIsNotOfferedEarlier() {
        TaxiRank x = rankWith(2);
        x.order(0, 1, 1, 16);
        x.order(0, 1, 1, 0);
        x.refuse(0);
        x.accept(1);
        x.cancel(1);
        x.stop(1);
        x.start(1);
        isOffered(x, 0, -1);
    }

    // Terms, "the one with the smallest due time, of the same due time the one with the smallest number", for
    // promise 4: a due time smaller by 1 goes before a smaller number.
    static void offersBySmallestDueTimeAndNumber() {
        TaxiRank x = new TaxiRank();
        x.order(0, 1, 1, 9);
        x.order(0, 1, 1, 8);
        x.order(0, 1, 1, 15);
        x.order(0, 1, 1, 8);
        x.order(0, 1, 1, 0);
        for (int cab = 0; cab < 5; cab++) {
            addStarted(x, 4, 0);
        }
        int[] dueCabs = {3, 1, 4, 2, 0};
        for (int order = 0; order < 5; order++) {
            isOffered(x, order, dueCabs[order]);
        }
    }

    // Terms, "as long as there is a WAITING order that [...] can be offered to some cab", for promises 4 and 14: one
    // that can be offered to none does not keep back those behind it.
    static void orderThatNobodyCanTakeIsPassedOver() {
        TaxiRank x = new TaxiRank();
        x.order(0, 1, 8, 0);
        x.order(0, 1, 3, 1);
        x.order(0, 1, 2, 2);
        addStarted(x, 2, 0);
        isOffered(x, 0, -1);
        isOffered(x, 1, -1);
        isOffered(x, 2, 0);
        x.refuse(0);
        x.order(0, 1, 1, 5);
        isOffered(x, 2, -1);
        isOffered(x, 3, 0);
    }

    // Terms, "as long as there is a WAITING order", for promise 14: ten offers at the end of one minute, and no
    // eleventh, as no cab is left.
    static void tenOffersInOneMinute() {
        TaxiRank x = rankWith(10);
        for (int i = 0; i < 11; i++) {
            x.order(0, 1, 1, 20);
        }
        x.tick(4);
        is("WAITING", x.count(2), 11);
        x.tick(1);
        is("OFFERED", x.count(3), 10);
        for (int i = 0; i < 10; i++) {
            isOffered(x, i, i);
        }
        isOffered(x, 10, -1);
    }

    // Terms, "a FREE cab with enough seats", for promise 8: as many seats as passengers are enough, one less is not.
    static void justEnoughSeats() {
        for (int seats = 1; seats <= 8; seats++) {
            TaxiRank x = new TaxiRank();
            addStarted(x, seats, 0);
            if (seats < 8) {
                isOffered(x, x.order(0, 1, seats + 1, 0), -1);
            }
            isOffered(x, x.order(0, 1, seats, 0), 0);
        }
    }

    // Terms, "and to which nothing is offered", for promise 8: a second order goes to the second cab, a third one
    // waits.
    static void oneOfferForEachCab() {
        TaxiRank x = rankWith(2);
        isOffered(x, x.order(0, 1, 1, 0), 0);
        isOffered(x, x.order(0, 1, 1, 0), 1);
        isOffered(x, x.order(0, 1, 1, 0), -1);
        is("order of cab 0", x.cab(0, 3), 0);
    }

    // Terms, "that has refused it not yet", for promises 8 and 10: it is the cab that is barred, from this order
    // alone.
    static void refusalIsOfOneOrderAndOneCab() {
        TaxiRank x = rankWith(1);
        x.order(0, 1, 1, 0);
        x.refuse(0);
        isOffered(x, x.order(0, 1, 1, 0), 0);
        isOffered(x, 0, -1);
        addStarted(x, 4, 0);
        isOffered(x, 0, 1);
    }

    // Terms, "first in the queue of the zone where the order begins", for promise 8: before a cab from another zone,
    // though its way be 1, and by its place, not by its number.
    static void ownZoneComesFirst() {
        TaxiRank x = new TaxiRank();
        for (int zone = 1; zone < 6; zone++) {
            x.setWay(0, zone, 1);
            addStarted(x, 4, zone);
        }
        for (int i = 0; i < 3; i++) {
            x.addCab(4, 0);
        }
        x.start(7);
        x.start(5);
        x.start(6);
        isOffered(x, x.order(0, 1, 1, 0), 7);
        isOffered(x, x.order(0, 1, 1, 0), 5);
        isOffered(x, x.order(0, 1, 1, 0), 6);
        isOffered(x, x.order(0, 1, 1, 0), 0);
    }

    // Terms, "if there is none in this queue", for promise 8: cabs in it that are too small, have an offer, or have
    // refused are none.
    static void ownZoneWithoutACabToChoose() {
        TaxiRank x = new TaxiRank();
        addStarted(x, 1, 0);
        addStarted(x, 4, 0);
        addStarted(x, 4, 0);
        addStarted(x, 4, 5);
        x.order(0, 1, 2, 0);
        x.order(0, 1, 2, 0);
        x.refuse(1);
        isOrder(x, 0, 1, 3, -1, -1, 1);
        isOffered(x, 1, 2);
        isQueue(x, 0, 0, 2, 1);
    }

    // Terms, "from whose zone the way to this zone is shortest", for promise 8: shorter by 1, also than the 10 at
    // first; 120 is short enough if there is no other.
    static void shortestWayByOneMinute() {
        TaxiRank x = new TaxiRank();
        x.setWay(3, 0, 11);
        x.setWay(3, 1, 120);
        x.setWay(3, 4, 9);
        for (int zone : new int[] {0, 1, 2, 4, 5}) {
            addStarted(x, 4, zone);
        }
        int[] dueZones = {4, 2, 5, 0, 1};
        for (int zone : dueZones) {
            int order = x.order(3, 0, 1, 0);
            is("zone of the cab of order " + order, x.cab(x.told(order, 1), 1), zone);
        }
    }

    // Terms, "of several zones the one with the smallest number", for promise 8: though another cab has the smaller
    // number, or was FREE before.
    static void sameWayFromSeveralZones() {
        TaxiRank x = new TaxiRank();
        for (int zone = 5; zone >= 1; zone--) {
            addStarted(x, 4, zone);
        }
        for (int i = 0; i < 5; i++) {
            isOffered(x, x.order(0, 1, 1, 0), 4 - i);
        }
        TaxiRank y = new TaxiRank();
        for (int zone = 4; zone >= 0; zone--) {
            addStarted(y, 4, zone);
        }
        for (int i = 0; i < 5; i++) {
            isOffered(y, y.order(5, 1, 1, 0), 4 - i);
        }
    }

    // Terms, "the first one of its queue that can be chosen", for promise 8: the second or third of the nearest
    // zone goes before the first of a farther one.
    static void firstOfTheNearestQueueThatCanBeChosen() {
        TaxiRank x = new TaxiRank();
        x.setWay(0, 1, 9);
        addStarted(x, 4, 2);
        x.addCab(4, 1);
        addStarted(x, 1, 1);
        addStarted(x, 4, 1);
        x.start(1);
        isQueue(x, 1, 2, 3, 1);
        isOffered(x, x.order(0, 5, 2, 0), 3);
        isOffered(x, x.order(0, 5, 2, 0), 1);
        isOffered(x, x.order(0, 5, 2, 0), 0);
        isOffered(x, x.order(0, 5, 1, 0), 2);
    }

    // Terms, "it is offered to the one", for promise 2: the ways of that time count, and an offer that is made
    // stays where it is, whatever is set later.
    static void offerByTheWaysOfItsTime() {
        TaxiRank x = new TaxiRank();
        addStarted(x, 4, 1);
        addStarted(x, 4, 2);
        x.setWay(0, 2, 9);
        isOffered(x, x.order(0, 5, 1, 0), 1);
        x.setWay(0, 1, 8);
        isOffered(x, 0, 1);
        x.tick(1);
        isOffered(x, 0, 1);
        x.setWay(0, 1, 120);
        x.refuse(1);
        isOffered(x, 0, 0);
    }

    // Terms, "when it is 2 minutes old: then the cab has refused it", for promises 10, 12 and 14: not after 1 minute;
    // it counts as refused, and the cab goes to the end of its queue.
    static void offerIsTwoMinutesOld() {
        TaxiRank x = rankWith(2);
        x.order(0, 1, 1, 0);
        x.tick(1);
        isOrder(x, 0, 1, 0, -1, -1, 0);
        isQueue(x, 0, 0, 1);
        x.tick(1);
        isOrder(x, 0, 1, 1, -1, -1, 1);
        isQueue(x, 0, 1, 0);
        x.tick(1);
        isOrder(x, 0, 1, 1, -1, -1, 1);
        x.tick(1);
        isOrder(x, 0, 0, -1, -1, -1, 2);
        isQueue(x, 0, 0, 1);
        x.tick(300);
        isOrder(x, 0, 0, -1, -1, -1, 2);
        isQueue(x, 0, 0, 1);
    }

    // Terms, "when it is 2 minutes old", for promise 14: counted from the offer, not from the order, nor from an
    // offer of it before.
    static void ageOfAnOfferIsItsOwn() {
        TaxiRank x = new TaxiRank();
        x.order(0, 1, 1, 0);
        x.tick(10);
        addStarted(x, 4, 0);
        addStarted(x, 4, 0);
        x.tick(1);
        isOrder(x, 0, 1, 0, -1, -1, 0);
        x.refuse(0);
        isOrder(x, 0, 1, 1, -1, -1, 1);
        x.tick(1);
        isOrder(x, 0, 1, 1, -1, -1, 1);
        x.tick(1);
        isOrder(x, 0, 0, -1, -1, -1, 2);
        x.order(0, 1, 1, 13);
        x.tick(1);
        isOrder(x, 1, 1, 0, -1, -1, 0);
    }

    // Terms, "A cab that refuses goes to the end of the queue of its zone", for promise 10: the first, a middle one,
    // the last one, and the only one.
    static void refuserGoesToTheEnd() {
        TaxiRank x = rankWith(3);
        x.order(0, 1, 1, 0);
        x.order(0, 1, 1, 0);
        x.order(0, 1, 1, 0);
        x.refuse(1);
        isQueue(x, 0, 0, 2, 1);
        x.refuse(0);
        isQueue(x, 0, 2, 1, 0);
        TaxiRank y = rankWith(2);
        y.order(0, 1, 1, 0);
        y.order(0, 1, 1, 0);
        y.refuse(1);
        isQueue(y, 0, 0, 1);
        TaxiRank z = rankWithOrderThatIs(1);
        z.refuse(0);
        isQueue(z, 0, 0);
    }

    // Terms, "and is there after the minutes of the way (CALL). If it is there ahead of the due time of the order,
    // it waits until then", for promises 9 and 14: a minute ahead, in time, and a minute late.
    static void rideBeginsAtArrivalOrDueTime() {
        int[] dues = {0, 4, 5, 6, 14, 15};
        int[] begun = {5, 5, 5, 6, 14, 15};
        for (int i = 0; i < dues.length; i++) {
            TaxiRank x = rankWith(1);
            x.order(0, 1, 1, dues[i]);
            x.accept(0);
            x.tick(begun[i] - 1);
            isOrder(x, 0, 2, 0, -1, -1, 0);
            isCab(x, 0, 2, 0, 4, 0, -1);
            x.tick(1);
            isOrder(x, 0, 3, 0, begun[i], -1, 0);
            isCab(x, 0, 3, 0, 4, 0, -1);
            is("on its way", x.tick(9), 0);
            is("DONE", x.tick(1), 1);
            isOrder(x, 0, 4, 0, begun[i], begun[i] + 10, 0);
        }
    }

    // Terms, "it is BUSY for the minutes of the way (as it is then)", for promises 2 and 14: set a minute ahead of
    // the ride it counts, set at its first minute it does not; within a zone it is 5.
    static void rideTakesTheWayOfItsBeginning() {
        TaxiRank x = rankWith(1);
        x.order(0, 1, 1, 0);
        x.accept(0);
        x.tick(4);
        x.setWay(0, 1, 3);
        x.tick(1);
        x.setWay(0, 1, 1);
        is("2 minutes", x.tick(2), 0);
        is("3 minutes", x.tick(1), 1);
        TaxiRank y = rankWith(1);
        y.order(0, 0, 1, 0);
        y.accept(0);
        y.tick(5);
        is("4 minutes within a zone", y.tick(4), 0);
        is("5 minutes within a zone", y.tick(1), 1);
    }

    // Terms, "then the order is DONE, and the cab is FREE in that zone", for promises 7 and 14: at the end of its
    // queue, and it can be offered the next order in that minute.
    static void cabIsFreeWhereTheRideEnds() {
        TaxiRank x = rankWith(1);
        x.order(0, 1, 1, 0);
        x.accept(0);
        addStarted(x, 4, 1);
        x.tick(5);
        x.order(1, 0, 1, 20);
        isOffered(x, 1, 1);
        x.accept(1);
        x.order(1, 0, 1, 20);
        x.tick(9);
        isOffered(x, 2, -1);
        is("DONE", x.tick(1), 1);
        isCab(x, 0, 1, 1, 4, 2, 0);
        isOffered(x, 2, 0);
        x.tick(1);
        isOffered(x, 2, 0);
        x.tick(1);
        isOffered(x, 2, -1);
    }

    // Terms, "offers that are 2 minutes old are refused, in ascending order of their cabs", for promise 14: of two in
    // one minute the smaller number stands first afterwards, though it stood last.
    static void oldOffersInAscendingOrder() {
        TaxiRank x = new TaxiRank();
        x.addCab(4, 0);
        x.addCab(4, 0);
        x.addCab(4, 0);
        x.start(2);
        x.start(1);
        x.start(0);
        for (int i = 0; i < 3; i++) {
            x.order(0, 1, 1, 0);
            isOffered(x, i, 2 - i);
        }
        x.tick(2);
        isQueue(x, 0, 0, 1, 2);
        isOrder(x, 0, 1, 0, -1, -1, 1);
        isOrder(x, 1, 1, 2, -1, -1, 1);
        isOrder(x, 2, 1, 1, -1, -1, 1);
    }

    // Terms, "cabs whose way or ride is over come to where they go, in ascending order", for promise 14: of rides
    // that end in one minute in one zone, the smaller number stands first, whoever accepted first.
    static void arrivalsInAscendingOrder() {
        TaxiRank x = rankWith(3);
        for (int i = 0; i < 3; i++) {
            x.order(0, 4, 1, 0);
        }
        x.accept(2);
        x.accept(0);
        x.accept(1);
        is("DONE", x.tick(15), 3);
        isQueue(x, 4, 0, 1, 2);
    }

    // Terms, "then, in this order: offers that are 2 minutes old are refused [...]; cabs whose way or ride is over
    // come to where they go", for promise 14: who has refused stands ahead of who arrives in the same minute.
    static void refusersStandAheadOfArrivals() {
        TaxiRank x = rankWith(1);
        addStarted(x, 4, 1);
        x.order(0, 1, 1, 0);
        x.accept(0);
        x.tick(13);
        x.order(1, 0, 1, 13);
        isOffered(x, 1, 1);
        is("DONE", x.tick(2), 1);
        isQueue(x, 1, 1, 0);
    }

    // Terms, "then the desk makes offers", for promise 14: after the refusals and the arrivals of the minute, so to
    // a cab that has just arrived, though another one was FREE elsewhere.
    static void offersComeLastInAMinute() {
        TaxiRank x = rankWith(1);
        addStarted(x, 4, 1);
        addStarted(x, 4, 2);
        x.order(0, 1, 1, 0);
        x.accept(0);
        x.tick(13);
        x.order(1, 0, 1, 13);
        x.tick(2);
        isOrder(x, 1, 1, 0, -1, -1, 1);
        isCab(x, 2, 1, 2, 4, -1, 0);
    }

    // Terms, "In each one, the time becomes 1 greater; then", for promise 14: a preorder is looked at by the new
    // time, and offers within a long tick are 2 minutes old two minutes later, one cab after the other.
    static void offersWithinALongTick() {
        TaxiRank x = rankWith(3);
        x.order(0, 1, 1, 20);
        x.tick(10);
        isOrder(x, 0, 1, 2, -1, -1, 2);
        TaxiRank y = rankWith(3);
        y.order(0, 1, 1, 20);
        y.tick(11);
        isOrder(y, 0, 0, -1, -1, -1, 3);
    }

    // Terms, "a ride that begins at once at the end of a CALL takes its minutes from now on", for promise 14: a way
    // of 1 is not over in the minute in which it begins.
    static void rideOfOneMinute() {
        TaxiRank x = rankWith(1);
        x.setWay(0, 1, 1);
        x.order(1, 0, 1, 0);
        x.accept(0);
        is("the CALL", x.tick(1), 0);
        isOrder(x, 0, 3, 0, 1, -1, 0);
        is("the ride", x.tick(1), 1);
        isOrder(x, 0, 4, 0, 1, 2, 0);
    }

    // Terms, "A method that throws an exception changes nothing", for promises 2 to 14: what a digest does not show
    // is as before, too: ways, rates, ages of offers, times of arrival, who has refused.
    static void refusedCallsChangeNothing() {
        TaxiRank x = rankWith(3);
        x.order(0, 1, 1, 0);
        x.refuse(0);
        x.order(0, 2, 1, 0);
        x.accept(2);
        x.tick(1);
        fails(x, "setWay", ARGUMENT, () -> x.setWay(0, 2, 121));
        fails(x, "addCab", ARGUMENT, () -> x.addCab(9, 0));
        fails(x, "start", STATE, () -> x.start(1));
        fails(x, "stop", STATE, () -> x.stop(2));
        fails(x, "setRates", ARGUMENT, () -> x.setRates(9, 21));
        fails(x, "order", ARGUMENT, () -> x.order(0, 1, 1, 0));
        fails(x, "accept", STATE, () -> x.accept(2));
        fails(x, "refuse", STATE, () -> x.refuse(0));
        x.tick(1);
        isOrder(x, 0, 0, -1, -1, -1, 2);
        fails(x, "tick", ARGUMENT, () -> x.tick(301));
        x.tick(3);
        isOrder(x, 1, 3, 2, 5, -1, 0);
        fails(x, "cancel", STATE, () -> x.cancel(1));
        isFare(x, 1, 4, 20, -5, 12);
        is("not there", x.tick(9), 0);
        is("there", x.tick(1), 1);
        isOrder(x, 0, 1, 2, -1, -1, 2);
    }

    // What it is, "An object is used for at most 512 calls", for promises 4, 5 and 16: the last of them is answered
    // as the first ones are.
    static void fiveHundredAndTwelveCalls() {
        TaxiRank x = rankWith(2);
        for (int i = 0; i < 127; i++) {
            is("stop(0)", x.stop(0), 0);
            is("start(0)", x.start(0), 1);
            is("stop(1)", x.stop(1), 0);
            is("start(1)", x.start(1), 1);
        }
        TaxiRank y = rankWith(1);
        y.order(0, 1, 1, 0);
        for (int i = 3; i < 511; i++) {
            is("the order", y.told(0, 1), 0);
        }
        is("the 512th call", y.accept(0), 5);
    }

    // Terms, "If several exceptions apply, the one that is named first is thrown", for promises 4, 5, 9, 10 and 11:
    // what is not there is no matter of its state.
    static void noSuchCabOrOrderIsNamedFirst() {
        TaxiRank x = new TaxiRank();
        failsWith(x, "start(?)", INDEX, n -> x.start(n), 0, -1);
        failsWith(x, "stop(?)", INDEX, n -> x.stop(n), 0, -1);
        failsWith(x, "accept(?)", INDEX, n -> x.accept(n), 0, -1);
        failsWith(x, "refuse(?)", INDEX, n -> x.refuse(n), 0, -1);
        failsWith(x, "cancel(?)", INDEX, n -> x.cancel(n), 0, -1);
    }

    public static void main(String[] args) {
        runTestsOf(TermsBoundaryTests.class);
    }
}
