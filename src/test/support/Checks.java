import java.lang.reflect.InvocationTargetException;
import java.lang.reflect.Method;
import java.lang.reflect.Modifier;
import java.util.Arrays;
import java.util.Comparator;

/** What the tests share: the comparing of answers, and ranks that many of them begin with. */
abstract class Checks {
    interface Call {
        long run();
    }

    interface CallOf {
        long run(int number);
    }

    static final int LEAST = Integer.MIN_VALUE;
    static final int MOST = Integer.MAX_VALUE;
    static final Class<? extends Exception> INDEX = IndexOutOfBoundsException.class;
    static final Class<? extends Exception> ARGUMENT = IllegalArgumentException.class;
    static final Class<? extends Exception> STATE = IllegalStateException.class;

    private static int wrong = 0;
    private static String part = "";

    static void begin(String name) {
        part = name;
    }

    static void end(String whenAllIsRight) {
        System.out.println(wrong == 0 ? whenAllIsRight : wrong + " answers are wrong");
        if (wrong != 0) {
            System.exit(1);
        }
    }

    /** Each static method without parameters, but for main, is a test: so none can be left out. */
    static void runTestsOf(Class<?> tests) {
        Method[] methods = tests.getDeclaredMethods();
        Arrays.sort(methods, Comparator.comparing(Method::getName));
        int ran = 0;
        for (Method method : methods) {
            if (isTest(method)) {
                ran++;
                begin(method.getName());
                runTest(method);
            }
        }
        end(ran + " tests of " + tests.getName() + " hold");
    }

    private static boolean isTest(Method method) {
        return Modifier.isStatic(method.getModifiers()) && !Modifier.isPrivate(method.getModifiers())
                && !method.isSynthetic() && method.getParameterCount() == 0;
    }

    private static void runTest(Method method) {
        try {
            method.invoke(null);
        } catch (InvocationTargetException e) {
            complain("the test", "threw " + e.getCause(), "an answer");
        } catch (IllegalAccessException e) {
            complain("the test", "could not be run: " + e, "an answer");
        }
    }

    private static void complain(String what, String got, String due) {
        wrong++;
        System.out.println(part + ": " + what + " " + got + ", due is " + due);
    }

    static void is(String what, long got, long due) {
        if (got != due) {
            complain(what, "answered " + got, "" + due);
        }
    }

    static void isText(String what, String got, String due) {
        if (!got.equals(due)) {
            complain(what, "answered " + got, due);
        }
    }

    static void isD(String what, double got, double due) {
        if (Double.compare(got, due) != 0) {
            complain(what, "answered " + got, "" + due);
        }
    }

    /** The call throws just this exception, by a throw of its own, and leaves the rank as it was. */
    static void fails(TaxiRank x, String what, Class<? extends Exception> due, Call call) {
        long before = x.digest();
        RuntimeException got = thrownBy(call);
        if (got == null || got.getClass() != due) {
            complain(what, "threw " + got, "" + due);
        } else if (!isThrownByProgram(got)) {
            complain(what, "let the library throw", "a throw of the program's own");
        }
        is(what + " leaves the digest", x.digest(), before);
    }

    private static RuntimeException thrownBy(Call call) {
        try {
            call.run();
            return null;
        } catch (RuntimeException e) {
            return e;
        }
    }

    /** A list's get throws IndexOutOfBoundsException too: only where it was made tells it from the program's. */
    private static boolean isThrownByProgram(RuntimeException e) {
        StackTraceElement[] trace = e.getStackTrace();
        return trace.length > 0 && trace[0].getClassName().startsWith("TaxiRank");
    }

    /** The call fails so with each of the numbers, which stand for the ? of its name. */
    static void failsWith(TaxiRank x, String what, Class<? extends Exception> due, CallOf call, int... numbers) {
        for (int number : numbers) {
            fails(x, what.replace("?", "" + number), due, () -> call.run(number));
        }
    }

    static int addStarted(TaxiRank x, int seats, int zone) {
        int cab = x.addCab(seats, zone);
        x.start(cab);
        return cab;
    }

    /** A rank with so many FREE cabs of 4 seats in zone 0. */
    static TaxiRank rankWith(int cabs) {
        TaxiRank x = new TaxiRank();
        for (int i = 0; i < cabs; i++) {
            addStarted(x, 4, 0);
        }
        return x;
    }

    static void isOrder(TaxiRank x, int order, int state, int cab, int begun, int done, int refusers) {
        is("told(" + order + ", 0)", x.told(order, 0), state);
        is("told(" + order + ", 1)", x.told(order, 1), cab);
        is("told(" + order + ", 2)", x.told(order, 2), begun);
        is("told(" + order + ", 3)", x.told(order, 3), done);
        is("told(" + order + ", 4)", x.told(order, 4), refusers);
    }

    static void isFare(TaxiRank x, int order, int base, int way, int waiting, int night) {
        is("fare(" + order + ", 0)", x.fare(order, 0), base);
        is("fare(" + order + ", 1)", x.fare(order, 1), way);
        is("fare(" + order + ", 2)", x.fare(order, 2), waiting);
        is("fare(" + order + ", 3)", x.fare(order, 3), night);
        is("fare(" + order + ", 4)", x.fare(order, 4), base + way + waiting + night);
    }

    static void isCab(TaxiRank x, int cab, int state, int zone, int seats, int order, int place) {
        is("cab(" + cab + ", 0)", x.cab(cab, 0), state);
        is("cab(" + cab + ", 1)", x.cab(cab, 1), zone);
        is("cab(" + cab + ", 2)", x.cab(cab, 2), seats);
        is("cab(" + cab + ", 3)", x.cab(cab, 3), order);
        is("cab(" + cab + ", 4)", x.cab(cab, 4), place);
    }

    static void isQueue(TaxiRank x, int zone, int... cabs) {
        for (int place = 0; place < cabs.length; place++) {
            is("queue(" + zone + ", " + place + ")", x.queue(zone, place), cabs[place]);
        }
        is("queue(" + zone + ", " + cabs.length + ")", x.queue(zone, cabs.length), -1);
    }

    static void isMoney(TaxiRank x, int cab, int kept, int due) {
        is("money(" + cab + ", false)", x.money(cab, false), kept);
        is("money(" + cab + ", true)", x.money(cab, true), due);
    }

    /** The cab to which the order is offered is this one; -1: the order is WAITING. */
    static void isOffered(TaxiRank x, int order, int cab) {
        is("how order " + order + " is", x.told(order, 0), cab < 0 ? 0 : 1);
        is("cab of order " + order, x.told(order, 1), cab);
    }

    /** The minutes of a way, which setWay alone tells, and which it leaves as they were. */
    static int wayOf(TaxiRank x, int a, int b) {
        int minutes = x.setWay(a, b, 1);
        x.setWay(a, b, minutes);
        return minutes;
    }

    static void pass(TaxiRank x, int minutes) {
        for (int left = minutes; left > 0; left -= 300) {
            x.tick(Math.min(left, 300));
        }
    }

    /** A rank whose one cab begins a ride from zone 0 to 1 now, at this time, so many minutes late. */
    static TaxiRank ride(int base, int rate, int way, int begins, int late) {
        TaxiRank x = new TaxiRank();
        x.setRates(base, rate);
        x.setWay(0, 1, way);
        x.addCab(1, 0);
        int ordered = begins - Math.max(late, 5);
        pass(x, ordered);
        x.order(0, 1, 1, begins - late);
        pass(x, begins - 5 - ordered);
        x.start(0);
        x.accept(0);
        x.tick(5);
        return x;
    }

    /** A rank whose order 0, from zone 0 to 1, due at 0, is in this state; its one cab is cab 0. */
    static TaxiRank rankWithOrderThatIs(int state) {
        TaxiRank x = rankWith(state == 0 ? 0 : 1);
        x.order(0, 1, 1, 0);
        if (state == 2 || state == 3 || state == 4) {
            x.accept(0);
        }
        if (state == 3) {
            x.tick(5);
        }
        if (state == 4) {
            x.tick(15);
        }
        if (state == 5) {
            x.cancel(0);
        }
        return x;
    }

    /** A rank whose cab 0, of zone 0, is OFF (0), FREE (1), on CALL (2) or BUSY (3). */
    static TaxiRank rankWithCabThatIs(int state) {
        if (state < 2) {
            TaxiRank x = new TaxiRank();
            x.addCab(4, 0);
            if (state == 1) {
                x.start(0);
            }
            return x;
        }
        return rankWithOrderThatIs(state);
    }
}
