/** For each promise of the document: ordinary inputs, the edges that it names, and wrong inputs. */
public final class PromiseTests extends Checks {
    private static void promise1NewObject() {
        TaxiRank x = new TaxiRank();
        is("now", x.now(), 0);
        for (int what = 0; what <= 7; what++) {
            is("count(" + what + ")", x.count(what), 0);
        }
        for (int zone = 0; zone < 6; zone++) {
            isQueue(x, zone);
        }
        isD("lateness", x.lateness(), 0.0);
        is("nearest", x.nearest(0, 1), -1);
        is("base at first", x.setRates(1, 1), 4);
        TaxiRank y = new TaxiRank();
        y.addCab(1, 0);
        is("objects are apart", x.count(0), 0);
    }

    private static void promise2SetWay() {
        TaxiRank x = new TaxiRank();
        for (int a = 0; a < 6; a++) {
            for (int b = a + 1; b < 6; b++) {
                is("first way", x.setWay(a, b, 20 + a * 6 + b), 10);
            }
        }
        for (int a = 0; a < 6; a++) {
            for (int b = 0; b < a; b++) {
                is("the same both ways", x.setWay(a, b, 1), 20 + b * 6 + a);
            }
        }
        is("least", x.setWay(0, 5, 1), 1);
        is("most", x.setWay(5, 0, 120), 1);
        is("most is kept", x.setWay(0, 5, 7), 120);
        fails(x, "setWay(-1, 0, 5)", INDEX, () -> x.setWay(-1, 0, 5));
        fails(x, "setWay(0, -1, 5)", INDEX, () -> x.setWay(0, -1, 5));
        fails(x, "setWay(6, 0, 5)", INDEX, () -> x.setWay(6, 0, 5));
        fails(x, "setWay(0, 6, 5)", INDEX, () -> x.setWay(0, 6, 5));
        fails(x, "setWay(6, 6, 0)", INDEX, () -> x.setWay(6, 6, 0));
        fails(x, "setWay(MIN, MAX, 5)", INDEX, () -> x.setWay(Integer.MIN_VALUE, Integer.MAX_VALUE, 5));
        fails(x, "setWay(2, 2, 5)", ARGUMENT, () -> x.setWay(2, 2, 5));
        fails(x, "setWay(0, 5, 0)", ARGUMENT, () -> x.setWay(0, 5, 0));
        fails(x, "setWay(0, 5, 121)", ARGUMENT, () -> x.setWay(0, 5, 121));
        fails(x, "setWay(0, 5, -3)", ARGUMENT, () -> x.setWay(0, 5, -3));
        is("a failed call sets nothing", x.setWay(0, 5, 8), 7);
    }

    private static void promise3AddCab() {
        TaxiRank x = new TaxiRank();
        fails(x, "addCab(0, 0)", ARGUMENT, () -> x.addCab(0, 0));
        fails(x, "addCab(9, 0)", ARGUMENT, () -> x.addCab(9, 0));
        fails(x, "addCab(1, -1)", ARGUMENT, () -> x.addCab(1, -1));
        fails(x, "addCab(1, 6)", ARGUMENT, () -> x.addCab(1, 6));
        for (int i = 0; i < 10; i++) {
            is("addCab", x.addCab(1 + i % 8, i % 6), i);
            isCab(x, i, 0, i % 6, 1 + i % 8, -1, -1);
        }
        fails(x, "an eleventh cab", STATE, () -> x.addCab(1, 0));
        fails(x, "a wrong eleventh cab", ARGUMENT, () -> x.addCab(9, 0));
        is("cabs", x.count(0), 10);
        isQueue(x, 0);
    }

    private static void promise4Start() {
        TaxiRank x = new TaxiRank();
        x.addCab(4, 2);
        x.addCab(4, 2);
        x.addCab(4, 3);
        is("start(1)", x.start(1), 0);
        is("start(0)", x.start(0), 1);
        is("start(2)", x.start(2), 0);
        isQueue(x, 2, 1, 0);
        isQueue(x, 3, 2);
        fails(x, "start of a FREE cab", STATE, () -> x.start(0));
        fails(x, "start(-1)", INDEX, () -> x.start(-1));
        fails(x, "start(3)", INDEX, () -> x.start(3));
        x.order(2, 3, 1, 0);
        x.accept(1);
        fails(x, "start of a cab on CALL", STATE, () -> x.start(1));
        x.tick(5);
        fails(x, "start of a BUSY cab", STATE, () -> x.start(1));
        x.stop(0);
        x.stop(2);
        int waiting = x.order(0, 1, 4, 5);
        is("place of a cab to which an offer is made at once", x.start(2), 0);
        isOrder(x, waiting, 1, 2, -1, -1, 0);
    }

    private static void promise5Stop() {
        TaxiRank x = new TaxiRank();
        addStarted(x, 4, 3);
        addStarted(x, 4, 3);
        x.order(3, 0, 1, 0);
        is("stop(0)", x.stop(0), 3);
        isCab(x, 0, 0, 3, 4, -1, -1);
        isOrder(x, 0, 1, 1, -1, -1, 1);
        isQueue(x, 3, 1);
        is("start again", x.start(0), 1);
        x.refuse(1);
        isOrder(x, 0, 0, -1, -1, -1, 2);
        fails(x, "stop(-1)", INDEX, () -> x.stop(-1));
        fails(x, "stop(2)", INDEX, () -> x.stop(2));
        is("stop without an offer", x.stop(1), 3);
        isOrder(x, 0, 0, -1, -1, -1, 2);
        fails(x, "stop of an OFF cab", STATE, () -> x.stop(1));
        x.order(3, 0, 1, 0);
        x.accept(0);
        fails(x, "stop on CALL", STATE, () -> x.stop(0));
        x.tick(5);
        fails(x, "stop of a BUSY cab", STATE, () -> x.stop(0));
    }

    private static void promise6SetRates() {
        TaxiRank x = new TaxiRank();
        is("first", x.setRates(100, 20), 4);
        is("most", x.setRates(0, 0), 100);
        is("least", x.setRates(7, 3), 0);
        fails(x, "setRates(-1, 0)", ARGUMENT, () -> x.setRates(-1, 0));
        fails(x, "setRates(101, 0)", ARGUMENT, () -> x.setRates(101, 0));
        fails(x, "setRates(0, -1)", ARGUMENT, () -> x.setRates(0, -1));
        fails(x, "setRates(0, 21)", ARGUMENT, () -> x.setRates(0, 21));
        addStarted(x, 1, 0);
        x.order(0, 1, 1, 0);
        x.accept(0);
        x.tick(4);
        is("base before", x.setRates(9, 4), 7);
        x.tick(1);
        is("base before again", x.setRates(50, 20), 9);
        isFare(x, 0, 9, 40, -5, 24);
    }

    private static void promise7Cab() {
        TaxiRank x = new TaxiRank();
        x.setWay(1, 2, 6);
        x.addCab(5, 1);
        isCab(x, 0, 0, 1, 5, -1, -1);
        x.start(0);
        isCab(x, 0, 1, 1, 5, -1, 0);
        x.order(2, 3, 5, 0);
        isCab(x, 0, 1, 1, 5, 0, 0);
        x.accept(0);
        isCab(x, 0, 2, 1, 5, 0, -1);
        x.tick(5);
        isCab(x, 0, 2, 1, 5, 0, -1);
        x.tick(1);
        isCab(x, 0, 3, 2, 5, 0, -1);
        x.tick(9);
        isCab(x, 0, 3, 2, 5, 0, -1);
        x.tick(1);
        isCab(x, 0, 1, 3, 5, -1, 0);
        fails(x, "cab(-1, 0)", INDEX, () -> x.cab(-1, 0));
        fails(x, "cab(1, 0)", INDEX, () -> x.cab(1, 0));
        fails(x, "cab(0, -1)", INDEX, () -> x.cab(0, -1));
        fails(x, "cab(0, 5)", INDEX, () -> x.cab(0, 5));
    }

    private static void promise8Order() {
        TaxiRank x = new TaxiRank();
        x.tick(10);
        fails(x, "order(-1, 0, 1, 10)", INDEX, () -> x.order(-1, 0, 1, 10));
        fails(x, "order(6, 0, 1, 10)", INDEX, () -> x.order(6, 0, 1, 10));
        fails(x, "order(0, -1, 1, 10)", INDEX, () -> x.order(0, -1, 1, 10));
        fails(x, "order(0, 6, 9, 9)", INDEX, () -> x.order(0, 6, 9, 9));
        fails(x, "order(0, 0, 0, 10)", ARGUMENT, () -> x.order(0, 0, 0, 10));
        fails(x, "order(0, 0, 9, 10)", ARGUMENT, () -> x.order(0, 0, 9, 10));
        fails(x, "order(0, 0, 1, 9)", ARGUMENT, () -> x.order(0, 0, 1, 9));
        fails(x, "order(0, 0, 1, 10000)", ARGUMENT, () -> x.order(0, 0, 1, 10000));
        is("due now", x.order(0, 0, 1, 10), 0);
        is("due last", x.order(0, 0, 8, 9999), 1);
        for (int i = 2; i < 60; i++) {
            is("order", x.order(5, 5, 1, 10), i);
        }
        fails(x, "a 61st order", STATE, () -> x.order(0, 0, 1, 10));
        fails(x, "a wrong 61st order", ARGUMENT, () -> x.order(0, 0, 9, 10));
        fails(x, "a 61st order of no zone", INDEX, () -> x.order(0, 6, 1, 10));
        is("orders", x.count(1), 60);
    }

    private static void offersByDueTimeAndNumber() {
        TaxiRank x = new TaxiRank();
        x.order(0, 1, 1, 7);
        x.order(0, 1, 1, 3);
        x.order(0, 1, 1, 3);
        x.order(0, 1, 8, 0);
        x.addCab(2, 5);
        x.start(0);
        isOrder(x, 0, 0, -1, -1, -1, 0);
        isOrder(x, 1, 1, 0, -1, -1, 0);
        x.refuse(0);
        isOrder(x, 2, 1, 0, -1, -1, 0);
        x.refuse(0);
        isOrder(x, 0, 1, 0, -1, -1, 0);
        x.refuse(0);
        isOrder(x, 3, 0, -1, -1, -1, 0);
        isCab(x, 0, 1, 5, 2, -1, 0);
    }

    private static void offersByQueueAndWay() {
        TaxiRank x = new TaxiRank();
        x.setWay(0, 1, 1);
        x.setWay(0, 2, 1);
        addStarted(x, 4, 2);
        addStarted(x, 1, 1);
        addStarted(x, 4, 1);
        addStarted(x, 4, 1);
        addStarted(x, 1, 0);
        addStarted(x, 4, 0);
        int[] dueCabs = {5, 2, 3, 0};
        for (int i = 0; i < dueCabs.length; i++) {
            int order = x.order(0, 3, 2, 0);
            is("cab of order " + order, x.told(order, 1), dueCabs[i]);
        }
        is("no cab is left", x.told(x.order(0, 3, 2, 0), 1), -1);
        is("small cab of the zone", x.told(x.order(0, 3, 1, 0), 1), 4);
    }

    private static void offersByShortestWay() {
        TaxiRank x = new TaxiRank();
        int[] ways = {0, 30, 20, 10, 20, 9};
        for (int zone = 1; zone < 6; zone++) {
            x.setWay(zone, 0, ways[zone]);
            addStarted(x, 4, zone);
        }
        int[] dueZones = {5, 3, 2, 4, 1};
        for (int i = 0; i < dueZones.length; i++) {
            int order = x.order(0, 3, 2, 0);
            is("zone of the cab of order " + order, x.cab(x.told(order, 1), 1), dueZones[i]);
        }
    }

    private static void preorders() {
        TaxiRank x = new TaxiRank();
        addStarted(x, 1, 0);
        addStarted(x, 1, 0);
        x.order(0, 0, 1, 16);
        x.order(0, 0, 1, 15);
        isOrder(x, 0, 0, -1, -1, -1, 0);
        isOrder(x, 1, 1, 0, -1, -1, 0);
        x.tick(1);
        isOrder(x, 0, 1, 1, -1, -1, 0);
    }

    private static void promise9Accept() {
        TaxiRank x = new TaxiRank();
        x.setWay(0, 1, 7);
        x.setWay(0, 2, 3);
        addStarted(x, 4, 1);
        addStarted(x, 4, 0);
        fails(x, "nothing is offered", STATE, () -> x.accept(0));
        fails(x, "accept(-1)", INDEX, () -> x.accept(-1));
        fails(x, "accept(2)", INDEX, () -> x.accept(2));
        x.order(0, 2, 1, 0);
        x.order(0, 0, 1, 12);
        is("within the zone", x.accept(1), 5);
        is("from another zone", x.accept(0), 7);
        fails(x, "accept twice", STATE, () -> x.accept(0));
        x.setWay(0, 1, 100);
        x.setWay(0, 2, 30);
        isOrder(x, 1, 2, 0, -1, -1, 0);
        x.tick(4);
        isOrder(x, 0, 2, 1, -1, -1, 0);
        x.tick(1);
        isOrder(x, 0, 3, 1, 5, -1, 0);
        fails(x, "accept while BUSY", STATE, () -> x.accept(1));
        x.setWay(0, 2, 40);
        x.tick(6);
        isOrder(x, 1, 2, 0, -1, -1, 0);
        x.tick(1);
        isOrder(x, 1, 3, 0, 12, -1, 0);
        is("the call is 5 minutes", x.tick(4), 0);
        is("the ride within a zone is 5 minutes", x.tick(1), 1);
        isOrder(x, 1, 4, 0, 12, 17, 0);
        is("ride by the way as it began", x.tick(17), 0);
        is("ride ends", x.tick(1), 1);
        isOrder(x, 0, 4, 1, 5, 35, 0);
        isFare(x, 0, 4, 60, -5, 32);
    }

    private static void promise10Refuse() {
        TaxiRank x = new TaxiRank();
        addStarted(x, 4, 0);
        addStarted(x, 4, 0);
        addStarted(x, 4, 0);
        fails(x, "nothing is offered", STATE, () -> x.refuse(0));
        fails(x, "refuse(-1)", INDEX, () -> x.refuse(-1));
        fails(x, "refuse(3)", INDEX, () -> x.refuse(3));
        x.order(1, 0, 1, 0);
        is("refuse(0)", x.refuse(0), 0);
        isQueue(x, 0, 1, 2, 0);
        isOrder(x, 0, 1, 1, -1, -1, 1);
        fails(x, "refuse again", STATE, () -> x.refuse(0));
        x.refuse(1);
        x.refuse(2);
        isOrder(x, 0, 0, -1, -1, -1, 3);
        isQueue(x, 0, 0, 1, 2);
        x.tick(5);
        isOrder(x, 0, 0, -1, -1, -1, 3);
        is("another order", x.order(1, 0, 1, 5), 1);
        is("refuse answers the order", x.refuse(0), 1);
        x.accept(1);
        fails(x, "refuse on CALL", STATE, () -> x.refuse(1));
    }

    private static void promise11Cancel() {
        TaxiRank x = new TaxiRank();
        addStarted(x, 4, 0);
        addStarted(x, 4, 0);
        x.order(0, 1, 1, 0);
        x.order(0, 1, 8, 0);
        fails(x, "cancel(-1)", INDEX, () -> x.cancel(-1));
        fails(x, "cancel(2)", INDEX, () -> x.cancel(2));
        is("cancel of WAITING", x.cancel(1), 0);
        is("cancel of OFFERED", x.cancel(0), 1);
        isOrder(x, 0, 5, -1, -1, -1, 0);
        isCab(x, 0, 1, 0, 4, -1, 0);
        fails(x, "cancel of CANCELLED", STATE, () -> x.cancel(0));
        int far = x.order(3, 1, 1, 0);
        int next = x.order(3, 1, 1, 0);
        x.accept(0);
        x.accept(1);
        int last = x.order(0, 1, 1, 0);
        is("cancel of ACCEPTED", x.cancel(next), 2);
        isCab(x, 1, 1, 0, 4, last, 0);
        is("cancel of ACCEPTED", x.cancel(far), 2);
        isQueue(x, 0, 1, 0);
        isOrder(x, far, 5, -1, -1, -1, 0);
        is("a cancelled call never rides", x.tick(30), 0);
        isCab(x, 0, 1, 0, 4, -1, 1);
        isOrder(x, last, 0, -1, -1, -1, 2);
        int ridden = x.order(0, 1, 1, 30);
        x.accept(x.told(ridden, 1));
        x.tick(5);
        fails(x, "cancel of RIDING", STATE, () -> x.cancel(ridden));
        x.tick(10);
        fails(x, "cancel of DONE", STATE, () -> x.cancel(ridden));
        is("cancelled", x.count(7), 4);
    }

    private static void cancelWhileTheCabWaits() {
        TaxiRank x = new TaxiRank();
        addStarted(x, 4, 2);
        x.order(3, 1, 1, 15);
        is("accept", x.accept(0), 10);
        x.tick(14);
        isCab(x, 0, 2, 2, 4, 0, -1);
        is("cancel", x.cancel(0), 2);
        isCab(x, 0, 1, 2, 4, -1, 0);
    }

    private static void promise12Told() {
        TaxiRank x = new TaxiRank();
        x.order(0, 1, 1, 0);
        isOrder(x, 0, 0, -1, -1, -1, 0);
        addStarted(x, 4, 0);
        addStarted(x, 4, 0);
        isOrder(x, 0, 1, 0, -1, -1, 0);
        x.refuse(0);
        x.accept(1);
        isOrder(x, 0, 2, 1, -1, -1, 1);
        x.tick(5);
        isOrder(x, 0, 3, 1, 5, -1, 1);
        x.tick(10);
        isOrder(x, 0, 4, 1, 5, 15, 1);
        fails(x, "told(-1, 0)", INDEX, () -> x.told(-1, 0));
        fails(x, "told(1, 0)", INDEX, () -> x.told(1, 0));
        fails(x, "told(0, -1)", INDEX, () -> x.told(0, -1));
        fails(x, "told(0, 5)", INDEX, () -> x.told(0, 5));
    }

    private static void promise13Fare() {
        isFare(ride(4, 2, 10, 359, 0), 0, 4, 20, 0, 12);
        isFare(ride(4, 2, 10, 360, 0), 0, 4, 20, 0, 0);
        isFare(ride(4, 2, 10, 1439, 0), 0, 4, 20, 0, 0);
        isFare(ride(4, 2, 10, 1440, 0), 0, 4, 20, 0, 12);
        isFare(ride(4, 2, 10, 1799, 0), 0, 4, 20, 0, 12);
        isFare(ride(4, 2, 10, 1800, 0), 0, 4, 20, 0, 0);
        isFare(ride(5, 2, 10, 100, 1), 0, 5, 20, -1, 12);
        isFare(ride(5, 2, 11, 400, 4), 0, 5, 22, -4, 0);
        isFare(ride(5, 2, 11, 400, 5), 0, 5, 22, -5, 0);
        isFare(ride(5, 2, 11, 400, 6), 0, 5, 22, -5, 0);
        isFare(ride(0, 0, 120, 400, 60), 0, 0, 0, -5, 0);
        isFare(ride(100, 20, 120, 50, 0), 0, 100, 2400, 0, 1250);
        TaxiRank x = ride(4, 2, 10, 500, 2);
        x.setRates(50, 9);
        x.setWay(0, 1, 99);
        isFare(x, 0, 4, 20, -2, 0);
        x.tick(10);
        isFare(x, 0, 4, 20, -2, 0);
        x.order(1, 1, 1, 510);
        isFare(x, 1, 0, 0, 0, 0);
        x.accept(0);
        isFare(x, 1, 0, 0, 0, 0);
        x.cancel(1);
        isFare(x, 1, 0, 0, 0, 0);
        fails(x, "fare(-1, 0)", INDEX, () -> x.fare(-1, 0));
        fails(x, "fare(2, 0)", INDEX, () -> x.fare(2, 0));
        fails(x, "fare(0, -1)", INDEX, () -> x.fare(0, -1));
        fails(x, "fare(0, 5)", INDEX, () -> x.fare(0, 5));
    }

    private static void promise14Tick() {
        TaxiRank x = new TaxiRank();
        fails(x, "tick(0)", ARGUMENT, () -> x.tick(0));
        fails(x, "tick(-1)", ARGUMENT, () -> x.tick(-1));
        fails(x, "tick(MIN)", ARGUMENT, () -> x.tick(Integer.MIN_VALUE));
        fails(x, "tick(301)", ARGUMENT, () -> x.tick(301));
        fails(x, "tick(MAX)", ARGUMENT, () -> x.tick(Integer.MAX_VALUE));
        for (int i = 0; i < 33; i++) {
            is("tick(300)", x.tick(300), 0);
        }
        fails(x, "tick(100) at 9900", ARGUMENT, () -> x.tick(100));
        addStarted(x, 1, 0);
        x.order(0, 0, 1, 9900);
        x.accept(0);
        is("tick(99)", x.tick(99), 1);
        is("now", x.now(), 9999);
        fails(x, "tick(1) at 9999", ARGUMENT, () -> x.tick(1));
    }

    private static void offersGrowOld() {
        TaxiRank x = new TaxiRank();
        addStarted(x, 4, 0);
        addStarted(x, 4, 0);
        addStarted(x, 4, 0);
        x.order(0, 0, 1, 0);
        x.refuse(0);
        x.order(0, 0, 1, 0);
        isQueue(x, 0, 1, 2, 0);
        x.tick(1);
        isOrder(x, 0, 1, 1, -1, -1, 1);
        isOrder(x, 1, 1, 2, -1, -1, 0);
        x.tick(1);
        isQueue(x, 0, 0, 1, 2);
        isOrder(x, 0, 1, 2, -1, -1, 2);
        isOrder(x, 1, 1, 0, -1, -1, 1);
        is("the new offers are young", x.tick(1), 0);
        isOrder(x, 0, 1, 2, -1, -1, 2);
        x.tick(1);
        isOrder(x, 0, 0, -1, -1, -1, 3);
        isOrder(x, 1, 1, 1, -1, -1, 2);
    }

    private static void arrivalsInOrderOfCabs() {
        TaxiRank x = new TaxiRank();
        addStarted(x, 4, 1);
        addStarted(x, 4, 0);
        x.order(0, 2, 1, 0);
        x.order(1, 2, 1, 0);
        x.accept(1);
        x.accept(0);
        is("both are DONE", x.tick(15), 2);
        isQueue(x, 2, 0, 1);
    }

    private static void refusedAheadOfArrivals() {
        TaxiRank x = new TaxiRank();
        addStarted(x, 4, 0);
        x.order(0, 1, 1, 0);
        x.accept(0);
        x.addCab(4, 1);
        x.start(1);
        x.tick(13);
        x.order(1, 2, 1, 13);
        isOrder(x, 1, 1, 1, -1, -1, 0);
        is("one is DONE", x.tick(2), 1);
        isQueue(x, 1, 1, 0);
        isOrder(x, 1, 1, 0, -1, -1, 1);
    }

    private static void promise15Now() {
        TaxiRank x = new TaxiRank();
        is("now", x.now(), 0);
        x.tick(1);
        is("now", x.now(), 1);
        x.tick(300);
        is("now", x.now(), 301);
        addStarted(x, 1, 0);
        x.order(0, 0, 1, 301);
        x.accept(0);
        is("now goes on by tick alone", x.now(), 301);
    }

    private static void promise16Queue() {
        TaxiRank x = new TaxiRank();
        addStarted(x, 4, 5);
        addStarted(x, 4, 5);
        x.addCab(4, 5);
        isQueue(x, 5, 0, 1);
        isQueue(x, 0);
        is("queue(5, MAX)", x.queue(5, Integer.MAX_VALUE), -1);
        x.stop(0);
        x.start(2);
        x.start(0);
        isQueue(x, 5, 1, 2, 0);
        x.order(5, 5, 1, 0);
        isQueue(x, 5, 1, 2, 0);
        x.accept(1);
        isQueue(x, 5, 2, 0);
        fails(x, "queue(-1, 0)", INDEX, () -> x.queue(-1, 0));
        fails(x, "queue(6, 0)", INDEX, () -> x.queue(6, 0));
        fails(x, "queue(5, -1)", INDEX, () -> x.queue(5, -1));
    }

    private static void promise17Count() {
        TaxiRank x = new TaxiRank();
        addStarted(x, 4, 0);
        addStarted(x, 4, 0);
        addStarted(x, 4, 0);
        addStarted(x, 4, 0);
        x.order(0, 0, 4, 0);
        x.accept(0);
        x.tick(10);
        x.order(0, 1, 4, 10);
        x.accept(1);
        x.tick(5);
        x.order(0, 1, 4, 15);
        x.accept(2);
        x.order(0, 1, 4, 15);
        for (int i = 0; i < 7; i++) {
            x.order(0, 1, 8, 15);
        }
        x.cancel(4);
        x.cancel(5);
        int[] due = {4, 11, 5, 1, 1, 1, 1, 2};
        for (int what = 0; what < due.length; what++) {
            is("count(" + what + ")", x.count(what), due[what]);
        }
        fails(x, "count(-1)", INDEX, () -> x.count(-1));
        fails(x, "count(8)", INDEX, () -> x.count(8));
    }

    private static void promise18Money() {
        TaxiRank x = ride(4, 2, 10, 400, 0);
        is("kept ahead of DONE", x.money(0, false), 0);
        is("due ahead of DONE", x.money(0, true), 0);
        x.tick(10);
        is("kept of 24", x.money(0, false), 19);
        is("due of 24", x.money(0, true), 5);
        x.order(1, 0, 1, 410);
        x.accept(0);
        x.tick(15);
        is("kept of 24 and 19", x.money(0, false), 34);
        is("due of 24 and 19", x.money(0, true), 9);
        TaxiRank y = ride(0, 0, 1, 400, 4);
        y.tick(1);
        is("kept of -4", y.money(0, false), -3);
        is("due of -4", y.money(0, true), -1);
        TaxiRank z = ride(100, 20, 120, 50, 1);
        z.tick(120);
        is("kept of 3749", z.money(0, false), 2999);
        is("due of 3749", z.money(0, true), 750);
        fails(y, "money(-1, true)", INDEX, () -> y.money(-1, true));
        fails(y, "money(1, false)", INDEX, () -> y.money(1, false));
    }

    private static void promise19Settle() {
        TaxiRank x = ride(4, 2, 10, 400, 0);
        is("ahead of DONE", x.settle(0), 0);
        x.tick(10);
        is("pays", x.settle(0), 5);
        is("due after", x.money(0, true), 0);
        is("kept after", x.money(0, false), 19);
        is("pays nothing", x.settle(0), 0);
        x.order(1, 0, 1, 410);
        x.accept(0);
        x.tick(15);
        is("due of the next alone", x.money(0, true), 4);
        is("pays the next", x.settle(0), 4);
        is("kept of both", x.money(0, false), 34);
        TaxiRank y = ride(0, 0, 1, 400, 4);
        y.tick(1);
        is("a due less than 0", y.settle(0), -1);
        is("is gone too", y.money(0, true), 0);
        fails(y, "settle(-1)", INDEX, () -> y.settle(-1));
        fails(y, "settle(1)", INDEX, () -> y.settle(1));
    }

    private static void promise20Lateness() {
        TaxiRank x = new TaxiRank();
        addStarted(x, 4, 0);
        addStarted(x, 4, 0);
        addStarted(x, 4, 0);
        x.order(0, 1, 1, 0);
        x.order(0, 1, 1, 4);
        x.order(0, 1, 1, 15);
        isD("none has begun", x.lateness(), 0.0);
        x.accept(0);
        x.accept(1);
        x.accept(2);
        x.tick(4);
        isD("none has begun", x.lateness(), 0.0);
        x.tick(1);
        isD("5 and 1", x.lateness(), 3.0);
        x.tick(10);
        isD("5, 1 and 0", x.lateness(), 2.0);
        x.order(0, 1, 1, 15);
        x.cancel(3);
        isD("a cancelled order counts not", x.lateness(), 2.0);
        x.order(1, 1, 1, 15);
        x.accept(x.told(4, 1));
        x.tick(5);
        isD("5, 1, 0 and 5", x.lateness(), 11.0 / 4);
    }

    private static void promise21Nearest() {
        TaxiRank x = new TaxiRank();
        is("no cab", x.nearest(0, 1), -1);
        x.setWay(0, 1, 3);
        x.setWay(0, 2, 20);
        x.addCab(2, 0);
        is("an OFF cab", x.nearest(0, 1), -1);
        x.start(0);
        is("within the zone", x.nearest(0, 2), 5);
        is("too few seats", x.nearest(0, 3), -1);
        is("from afar", x.nearest(2, 1), 20);
        addStarted(x, 4, 1);
        is("a shorter way from another zone", x.nearest(0, 2), 3);
        is("enough seats", x.nearest(2, 3), 10);
        addStarted(x, 4, 2);
        is("not the last one", x.nearest(0, 2), 3);
        x.stop(2);
        x.stop(1);
        x.order(0, 0, 1, 0);
        is("an offer is made to it", x.nearest(0, 1), -1);
        x.accept(0);
        is("on CALL", x.nearest(0, 1), -1);
        x.tick(5);
        is("BUSY", x.nearest(0, 1), -1);
        x.tick(5);
        is("FREE again", x.nearest(0, 1), 5);
        fails(x, "nearest(-1, 1)", INDEX, () -> x.nearest(-1, 1));
        fails(x, "nearest(6, 0)", INDEX, () -> x.nearest(6, 0));
        fails(x, "nearest(0, 0)", ARGUMENT, () -> x.nearest(0, 0));
        fails(x, "nearest(0, 9)", ARGUMENT, () -> x.nearest(0, 9));
    }

    private static long digestByFace(TaxiRank x) {
        long d = 293;
        d = d * 31 + x.now();
        d = d * 31 + x.count(0);
        for (int cab = 0; cab < x.count(0); cab++) {
            for (int what = 0; what <= 4; what++) {
                d = d * 31 + x.cab(cab, what);
            }
            d = d * 31 + x.money(cab, false);
            d = d * 31 + x.money(cab, true);
        }
        d = d * 31 + x.count(1);
        for (int order = 0; order < x.count(1); order++) {
            for (int what = 0; what <= 4; what++) {
                d = d * 31 + x.told(order, what);
            }
            d = d * 31 + x.fare(order, 4);
        }
        for (int zone = 0; zone < 6; zone++) {
            for (int place = 0; x.queue(zone, place) >= 0; place++) {
                d = d * 31 + x.queue(zone, place);
            }
        }
        return d;
    }

    private static void promise22Digest() {
        is("of a new rank", new TaxiRank().digest(), 293L * 31 * 31 * 31);
        TaxiRank x = ride(4, 2, 10, 100, 3);
        is("while riding", x.digest(), digestByFace(x));
        x.tick(10);
        is("after the ride", x.digest(), digestByFace(x));
        x.settle(0);
        addStarted(x, 3, 4);
        addStarted(x, 8, 1);
        x.order(1, 4, 3, 110);
        x.order(1, 4, 8, 125);
        x.refuse(2);
        is("with a queue and orders", x.digest(), digestByFace(x));
        is("digest changes nothing", x.digest(), digestByFace(x));
    }

    private static void runAll() {
        begin("promise 1");
        promise1NewObject();
        begin("promise 2");
        promise2SetWay();
        begin("promise 3");
        promise3AddCab();
        begin("promise 4");
        promise4Start();
        begin("promise 5");
        promise5Stop();
        begin("promise 6");
        promise6SetRates();
        begin("promise 7");
        promise7Cab();
        begin("promise 8");
        promise8Order();
        offersByDueTimeAndNumber();
        offersByQueueAndWay();
        offersByShortestWay();
        preorders();
        begin("promise 9");
        promise9Accept();
        begin("promise 10");
        promise10Refuse();
        begin("promise 11");
        promise11Cancel();
        cancelWhileTheCabWaits();
        begin("promise 12");
        promise12Told();
        begin("promise 13");
        promise13Fare();
        begin("promise 14");
        promise14Tick();
        offersGrowOld();
        arrivalsInOrderOfCabs();
        refusedAheadOfArrivals();
        begin("promise 15");
        promise15Now();
        begin("promise 16");
        promise16Queue();
        begin("promise 17");
        promise17Count();
        begin("promise 18");
        promise18Money();
        begin("promise 19");
        promise19Settle();
        begin("promise 20");
        promise20Lateness();
        begin("promise 21");
        promise21Nearest();
        begin("promise 22");
        promise22Digest();
    }

    public static void main(String[] args) {
        runAll();
        end("all promises hold");
    }
}
