import java.util.ArrayList;
import java.util.List;

/** Compares the program with a second, plainer reading of the document over many made-up runs. */
public final class ModelTests {
    private static final int RUNS = 800;
    private static final int CALLS = 250;

    /** The document once more, with written-out queues and no sharing with the program. */
    private static final class Model {
        final int[][] way = new int[6][6];
        final List<List<Integer>> queues = new ArrayList<>();
        final List<int[]> cabs = new ArrayList<>();
        final List<int[]> orders = new ArrayList<>();
        final List<List<Integer>> refused = new ArrayList<>();
        int time = 0;
        int base = 4;
        int rate = 2;

        // a cab: 0 state, 1 zone, 2 seats, 3 order, 4 minutes left of way or ride, 5 kept, 6 due
        // an order: 0 state, 1 cab, 2 begun, 3 done, 4 from, 5 to, 6 passengers, 7 due,
        // 8 time of offer, 9 to 12 the parts of its fare

        Model() {
            for (int a = 0; a < 6; a++) {
                queues.add(new ArrayList<>());
                for (int b = 0; b < 6; b++) {
                    way[a][b] = a == b ? 5 : 10;
                }
            }
        }

        static void index(boolean fails) {
            if (fails) {
                throw new IndexOutOfBoundsException();
            }
        }

        static void argument(boolean fails) {
            if (fails) {
                throw new IllegalArgumentException();
            }
        }

        static void state(boolean fails) {
            if (fails) {
                throw new IllegalStateException();
            }
        }

        static boolean outside(int x, int least, int most) {
            return x < least || x > most;
        }

        int[] cabOf(int cab) {
            index(outside(cab, 0, cabs.size() - 1));
            return cabs.get(cab);
        }

        int[] orderOf(int order) {
            index(outside(order, 0, orders.size() - 1));
            return orders.get(order);
        }

        void leave(int cab) {
            for (List<Integer> queue : queues) {
                queue.remove((Integer) cab);
            }
        }

        void come(int cab) {
            leave(cab);
            cabs.get(cab)[0] = 1;
            queues.get(cabs.get(cab)[1]).add(cab);
        }

        boolean can(int order, int cab) {
            return cabs.get(cab)[0] == 1 && cabs.get(cab)[3] == -1
                    && cabs.get(cab)[2] >= orders.get(order)[6] && !refused.get(order).contains(cab);
        }

        int firstOf(int zone, int order) {
            for (int cab : queues.get(zone)) {
                if (can(order, cab)) {
                    return cab;
                }
            }
            return -1;
        }

        int choose(int order) {
            int from = orders.get(order)[4];
            if (firstOf(from, order) >= 0) {
                return firstOf(from, order);
            }
            for (int minutes = 1; minutes <= 120; minutes++) {
                for (int zone = 0; zone < 6; zone++) {
                    if (zone != from && way[zone][from] == minutes && firstOf(zone, order) >= 0) {
                        return firstOf(zone, order);
                    }
                }
            }
            return -1;
        }

        void desk() {
            while (true) {
                int next = -1;
                for (int i = orders.size() - 1; i >= 0; i--) {
                    int[] o = orders.get(i);
                    boolean looked = o[0] == 0 && o[7] <= time + 15;
                    if (looked && choose(i) >= 0 && (next < 0 || o[7] <= orders.get(next)[7])) {
                        next = i;
                    }
                }
                if (next < 0) {
                    return;
                }
                int cab = choose(next);
                orders.get(next)[0] = 1;
                orders.get(next)[1] = cab;
                orders.get(next)[8] = time;
                cabs.get(cab)[3] = next;
            }
        }

        void turnDown(int cab) {
            int order = cabs.get(cab)[3];
            refused.get(order).add(cab);
            orders.get(order)[0] = 0;
            orders.get(order)[1] = -1;
            cabs.get(cab)[3] = -1;
            come(cab);
        }

        long call(int kind, int p, int q, int r, int s) {
            switch (kind) {
                case 0: return setWay(p, q, r);
                case 1: return addCab(p, q);
                case 2: return start(p);
                case 3: return stop(p);
                case 4: return setRates(p, q);
                case 5: return order(p, q, r, s);
                case 6: return accept(p);
                case 7: return refuse(p);
                case 8: return cancel(p);
                case 9: return tick(p);
                case 10: return settle(p);
                case 11: return cab(p, q);
                case 12: return told(p, q);
                case 13: return fare(p, q);
                case 14: return queue(p, q);
                case 15: return count(p);
                case 16: return money(p, q != 0);
                case 17: return nearest(p, q);
                case 18: return Double.doubleToLongBits(lateness());
                default: return time;
            }
        }

        int setWay(int a, int b, int minutes) {
            index(outside(a, 0, 5) || outside(b, 0, 5));
            argument(a == b || outside(minutes, 1, 120));
            int before = way[a][b];
            way[a][b] = minutes;
            way[b][a] = minutes;
            return before;
        }

        int addCab(int seats, int zone) {
            argument(outside(seats, 1, 8) || outside(zone, 0, 5));
            state(cabs.size() == 10);
            cabs.add(new int[] {0, zone, seats, -1, 0, 0, 0});
            return cabs.size() - 1;
        }

        int start(int cab) {
            state(cabOf(cab)[0] != 0);
            come(cab);
            int place = queues.get(cabs.get(cab)[1]).indexOf(cab);
            desk();
            return place;
        }

        int stop(int cab) {
            state(cabOf(cab)[0] != 1);
            if (cabs.get(cab)[3] >= 0) {
                turnDown(cab);
            }
            leave(cab);
            cabs.get(cab)[0] = 0;
            desk();
            return cabs.get(cab)[1];
        }

        int setRates(int newBase, int newRate) {
            argument(outside(newBase, 0, 100) || outside(newRate, 0, 20));
            int before = base;
            base = newBase;
            rate = newRate;
            return before;
        }

        int order(int from, int to, int passengers, int due) {
            index(outside(from, 0, 5) || outside(to, 0, 5));
            argument(outside(passengers, 1, 8) || outside(due, time, 9999));
            state(orders.size() == 60);
            orders.add(new int[] {0, -1, -1, -1, from, to, passengers, due, 0, 0, 0, 0, 0});
            refused.add(new ArrayList<>());
            desk();
            return orders.size() - 1;
        }

        int accept(int cab) {
            int[] c = cabOf(cab);
            state(c[0] != 1 || c[3] < 0);
            leave(cab);
            c[0] = 2;
            c[4] = way[c[1]][orders.get(c[3])[4]];
            orders.get(c[3])[0] = 2;
            int minutes = c[4];
            desk();
            return minutes;
        }

        int refuse(int cab) {
            int[] c = cabOf(cab);
            state(c[0] != 1 || c[3] < 0);
            int order = c[3];
            turnDown(cab);
            desk();
            return order;
        }

        int cancel(int order) {
            int[] o = orderOf(order);
            state(o[0] > 2);
            int before = o[0];
            if (before > 0) {
                cabs.get(o[1])[3] = -1;
            }
            if (before == 2) {
                come(o[1]);
            }
            o[0] = 5;
            o[1] = -1;
            desk();
            return before;
        }

        int tick(int minutes) {
            argument(outside(minutes, 1, 300) || time + minutes > 9999);
            int done = 0;
            for (int i = 0; i < minutes; i++) {
                time++;
                for (int cab = 0; cab < cabs.size(); cab++) {
                    int[] c = cabs.get(cab);
                    if (c[0] == 1 && c[3] >= 0 && orders.get(c[3])[8] + 2 == time) {
                        turnDown(cab);
                    }
                }
                for (int cab = 0; cab < cabs.size(); cab++) {
                    done += drive(cab);
                }
                desk();
            }
            return done;
        }

        int drive(int cab) {
            int[] c = cabs.get(cab);
            if (c[0] < 2) {
                return 0;
            }
            int[] o = orders.get(c[3]);
            c[4] = Math.max(c[4] - 1, 0);
            if (c[0] == 3 && c[4] == 0) {
                int sum = o[9] + o[10] + o[11] + o[12];
                c[5] += sum * 80 / 100;
                c[6] += sum - sum * 80 / 100;
                o[0] = 4;
                o[3] = time;
                c[1] = o[5];
                c[3] = -1;
                come(cab);
                return 1;
            }
            if (c[0] == 2 && c[4] == 0 && time >= o[7]) {
                c[0] = 3;
                c[1] = o[4];
                c[4] = way[o[4]][o[5]];
                o[0] = 3;
                o[2] = time;
                o[9] = base;
                o[10] = rate * c[4];
                o[11] = Math.max(o[7] - time, -5);
                o[12] = time % 1440 < 360 ? (o[9] + o[10]) / 2 : 0;
            }
            return 0;
        }

        int settle(int cab) {
            int paid = cabOf(cab)[6];
            cabs.get(cab)[6] = 0;
            return paid;
        }

        int cab(int cab, int what) {
            int[] c = cabOf(cab);
            index(outside(what, 0, 4));
            return what < 4 ? c[what] : c[0] == 1 ? queues.get(c[1]).indexOf(cab) : -1;
        }

        int told(int order, int what) {
            int[] o = orderOf(order);
            index(outside(what, 0, 4));
            return what < 4 ? o[what] : refused.get(order).size();
        }

        int fare(int order, int part) {
            int[] o = orderOf(order);
            index(outside(part, 0, 4));
            return part < 4 ? o[9 + part] : o[9] + o[10] + o[11] + o[12];
        }

        int queue(int zone, int place) {
            index(outside(zone, 0, 5) || place < 0);
            return place < queues.get(zone).size() ? queues.get(zone).get(place) : -1;
        }

        int count(int what) {
            index(outside(what, 0, 7));
            int found = 0;
            for (int[] o : orders) {
                found += o[0] == what - 2 ? 1 : 0;
            }
            return what == 0 ? cabs.size() : what == 1 ? orders.size() : found;
        }

        int money(int cab, boolean isDue) {
            return cabOf(cab)[isDue ? 6 : 5];
        }

        double lateness() {
            double sum = 0;
            int begun = 0;
            for (int[] o : orders) {
                if (o[2] >= 0) {
                    sum += o[2] - o[7];
                    begun++;
                }
            }
            return begun == 0 ? 0 : sum / begun;
        }

        int nearest(int zone, int passengers) {
            index(outside(zone, 0, 5));
            argument(outside(passengers, 1, 8));
            int best = 1000;
            for (int[] c : cabs) {
                if (c[0] == 1 && c[3] < 0 && c[2] >= passengers) {
                    best = Math.min(best, way[c[1]][zone]);
                }
            }
            return best == 1000 ? -1 : best;
        }

        long digest() {
            long d = 293 * 31L + time;
            d = d * 31 + cabs.size();
            for (int cab = 0; cab < cabs.size(); cab++) {
                for (int what = 0; what < 5; what++) {
                    d = d * 31 + cab(cab, what);
                }
                d = (d * 31 + cabs.get(cab)[5]) * 31 + cabs.get(cab)[6];
            }
            d = d * 31 + orders.size();
            for (int order = 0; order < orders.size(); order++) {
                for (int what = 0; what < 5; what++) {
                    d = d * 31 + told(order, what);
                }
                d = d * 31 + fare(order, 4);
            }
            for (List<Integer> queue : queues) {
                for (int cab : queue) {
                    d = d * 31 + cab;
                }
            }
            return d;
        }
    }

    private static long callProgram(TaxiRank x, int kind, int p, int q, int r, int s) {
        switch (kind) {
            case 0: return x.setWay(p, q, r);
            case 1: return x.addCab(p, q);
            case 2: return x.start(p);
            case 3: return x.stop(p);
            case 4: return x.setRates(p, q);
            case 5: return x.order(p, q, r, s);
            case 6: return x.accept(p);
            case 7: return x.refuse(p);
            case 8: return x.cancel(p);
            case 9: return x.tick(p);
            case 10: return x.settle(p);
            case 11: return x.cab(p, q);
            case 12: return x.told(p, q);
            case 13: return x.fare(p, q);
            case 14: return x.queue(p, q);
            case 15: return x.count(p);
            case 16: return x.money(p, q != 0);
            case 17: return x.nearest(p, q);
            case 18: return Double.doubleToLongBits(x.lateness());
            default: return x.now();
        }
    }

    private static final String[] NAMES = {"setWay", "addCab", "start", "stop", "setRates", "order", "accept",
        "refuse", "cancel", "tick", "settle", "cab", "told", "fare", "queue", "count", "money", "nearest",
        "lateness", "now"};

    /** How often each kind of call is made, of the sum of all. */
    private static final int[] WEIGHTS = {6, 8, 12, 5, 3, 22, 40, 12, 6, 30, 3, 2, 2, 3, 2, 2, 2, 3, 2, 1};

    private static long seed;

    /** A number from 0 to below the bound, always the same ones in the same order. */
    private static int draw(int bound) {
        seed = seed * 6364136223846793005L + 1442695040888963407L;
        return (int) ((seed >>> 33) % bound);
    }

    /** Mostly least to most, now and then one beside them. */
    private static int drawIn(int least, int most) {
        int luck = draw(60);
        if (luck == 0) {
            return least - 1;
        }
        if (luck == 1) {
            return most + 1;
        }
        if (luck == 2) {
            return draw(2) == 0 ? Integer.MIN_VALUE : Integer.MAX_VALUE;
        }
        return most < least ? least : least + draw(most - least + 1);
    }

    private static int drawKind() {
        int sum = 0;
        for (int weight : WEIGHTS) {
            sum += weight;
        }
        int left = draw(sum);
        int kind = 0;
        while (left >= WEIGHTS[kind]) {
            left -= WEIGHTS[kind];
            kind++;
        }
        return kind;
    }

    private static int drawCab(Model m, int kind) {
        if (kind == 6 || kind == 7) {
            for (int i = 0; i < 5 && !m.cabs.isEmpty(); i++) {
                int cab = draw(m.cabs.size());
                if (m.cabs.get(cab)[0] == 1 && m.cabs.get(cab)[3] >= 0) {
                    return cab;
                }
            }
        }
        return drawIn(0, m.cabs.size() - 1);
    }

    private static int drawDue(Model m) {
        switch (draw(4)) {
            case 0: return m.time;
            case 1: return drawIn(m.time, m.time + 14);
            case 2: return drawIn(m.time, Math.min(m.time + 60, 9999));
            default: return drawIn(m.time, 9999);
        }
    }

    private static int drawTick(int longTicks) {
        if (draw(20) < longTicks) {
            return drawIn(1, 300);
        }
        return draw(3) == 0 ? drawIn(1, 30) : 1 + draw(4);
    }

    private static int[] drawArguments(Model m, int kind, int longTicks, int zones) {
        switch (kind) {
            case 0: return new int[] {drawIn(0, 5), drawIn(0, 5), draw(2) == 0 ? drawIn(1, 120) : drawIn(1, 8), 0};
            case 1: return new int[] {drawIn(1, 8), drawIn(0, zones), 0, 0};
            case 4: return new int[] {drawIn(0, 100), drawIn(0, 20), 0, 0};
            case 5: return new int[] {drawIn(0, zones), drawIn(0, zones), drawIn(1, 1 + draw(8)), drawDue(m)};
            case 9: return new int[] {drawTick(longTicks), 0, 0, 0};
            case 8: return new int[] {drawIn(0, m.orders.size() - 1), 0, 0, 0};
            case 12:
            case 13: return new int[] {drawIn(0, m.orders.size() - 1), drawIn(0, 4), 0, 0};
            case 14: return new int[] {drawIn(0, 5), drawIn(0, 3), 0, 0};
            case 15: return new int[] {drawIn(0, 7), 0, 0, 0};
            case 16: return new int[] {drawCab(m, kind), draw(2), 0, 0};
            case 17: return new int[] {drawIn(0, 5), drawIn(1, 8), 0, 0};
            default: return new int[] {drawCab(m, kind), drawIn(0, 4), 0, 0};
        }
    }

    private static String answer(TaxiRank x, Model m, int kind, int[] a) {
        try {
            return "" + (m == null ? callProgram(x, kind, a[0], a[1], a[2], a[3]) : m.call(kind, a[0], a[1], a[2], a[3]));
        } catch (RuntimeException e) {
            return "throws." + e.getClass().getSimpleName();
        }
    }

    /** Whether one made-up run of calls is answered alike; prints the first call that is not. */
    private static boolean runIsAlike(int run, int[] answered, int[] thrown) {
        seed = run * 7919L + 17;
        TaxiRank x = new TaxiRank();
        Model m = new Model();
        int longTicks = run % 4 == 0 ? 10 : run % 4;
        int zones = run % 3 == 0 ? 1 : 5;
        for (int i = 0; i < CALLS; i++) {
            int kind = drawKind();
            int[] a = drawArguments(m, kind, longTicks, zones);
            String due = answer(null, m, kind, a);
            String got = answer(x, null, kind, a);
            if (due.startsWith("throws")) {
                thrown[kind]++;
            } else {
                answered[kind]++;
            }
            if (!got.equals(due) || x.digest() != m.digest()) {
                System.out.println("run " + run + ", call " + i + ": " + NAMES[kind] + "(" + a[0] + ", " + a[1] + ", "
                        + a[2] + ", " + a[3] + ") answered " + got + ", due is " + due + ", or the digest is wrong");
                return false;
            }
        }
        return true;
    }

    public static void main(String[] args) {
        int wrong = 0;
        int[] answered = new int[NAMES.length];
        int[] thrown = new int[NAMES.length];
        for (int run = 0; run < RUNS && wrong < 10; run++) {
            wrong += runIsAlike(run, answered, thrown) ? 0 : 1;
        }
        if (args.length > 0) {
            for (int kind = 0; kind < NAMES.length; kind++) {
                System.out.println(NAMES[kind] + ": " + answered[kind] + " answered, " + thrown[kind] + " thrown");
            }
        }
        System.out.println(wrong == 0 ? "all runs are alike" : wrong + " runs differ");
        if (wrong != 0) {
            System.exit(1);
        }
    }
}
