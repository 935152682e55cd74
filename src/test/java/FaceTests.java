import java.lang.reflect.Constructor;
import java.lang.reflect.Field;
import java.lang.reflect.Method;
import java.lang.reflect.Modifier;
import java.util.ArrayList;
import java.util.Collections;
import java.util.List;

/** The class as "The public face" of the document has it: nothing is left out, and nothing else is there. */
public final class FaceTests extends Checks {
    private static final String[] FACE = {
        "int setWay(int, int, int) throws IndexOutOfBoundsException, IllegalArgumentException",
        "int addCab(int, int) throws IllegalArgumentException, IllegalStateException",
        "int start(int) throws IndexOutOfBoundsException, IllegalStateException",
        "int stop(int) throws IndexOutOfBoundsException, IllegalStateException",
        "int setRates(int, int) throws IllegalArgumentException",
        "int cab(int, int) throws IndexOutOfBoundsException",
        "int order(int, int, int, int) throws IndexOutOfBoundsException, IllegalArgumentException, "
                + "IllegalStateException",
        "int accept(int) throws IndexOutOfBoundsException, IllegalStateException",
        "int refuse(int) throws IndexOutOfBoundsException, IllegalStateException",
        "int cancel(int) throws IndexOutOfBoundsException, IllegalStateException",
        "int told(int, int) throws IndexOutOfBoundsException",
        "int fare(int, int) throws IndexOutOfBoundsException",
        "int tick(int) throws IllegalArgumentException",
        "int now()",
        "int queue(int, int) throws IndexOutOfBoundsException",
        "int count(int) throws IndexOutOfBoundsException",
        "int money(int, boolean) throws IndexOutOfBoundsException",
        "int settle(int) throws IndexOutOfBoundsException",
        "double lateness()",
        "int nearest(int, int) throws IndexOutOfBoundsException, IllegalArgumentException",
        "long digest()",
    };

    // The public face, "public final class TaxiRank", for promise 1.
    static void classIsPublicAndFinal() {
        isText("the class", Modifier.toString(TaxiRank.class.getModifiers()), "public final");
        is("interfaces", TaxiRank.class.getInterfaces().length, 0);
        is("it extends Object alone", TaxiRank.class.getSuperclass() == Object.class ? 1 : 0, 1);
    }

    // The public face, "public TaxiRank();", for promise 1.
    static void oneConstructor() {
        Constructor<?>[] constructors = TaxiRank.class.getDeclaredConstructors();
        is("constructors", constructors.length, 1);
        isText("the constructor", constructors[0].toGenericString(), "public TaxiRank()");
    }

    // The public face, each method with its exceptions, for promises 2 to 22.
    static void methodsOfTheFace() {
        List<String> due = new ArrayList<>(List.of(FACE));
        List<String> got = new ArrayList<>();
        for (Method method : TaxiRank.class.getDeclaredMethods()) {
            if (!Modifier.isPrivate(method.getModifiers())) {
                isText(method.getName(), Modifier.toString(method.getModifiers()), "public");
                got.add(textOf(method));
            }
        }
        Collections.sort(due);
        Collections.sort(got);
        isText("the methods", String.join("\n", got), String.join("\n", due));
    }

    // LANGUAGE.md, rule 1, "No private method bears the name of a public one", and no field or class inside is
    // seen from outside.
    static void restIsPrivate() {
        String names = "";
        for (String method : FACE) {
            names += method.replaceAll("\\(.*", "(").replaceAll(".* ", " ");
        }
        for (Method method : TaxiRank.class.getDeclaredMethods()) {
            if (Modifier.isPrivate(method.getModifiers())) {
                is(method.getName() + " bears a public name", names.contains(" " + method.getName() + "(") ? 1 : 0, 0);
            }
        }
        for (Field field : TaxiRank.class.getDeclaredFields()) {
            is(field.getName() + " is private", Modifier.isPrivate(field.getModifiers()) ? 1 : 0, 1);
        }
        for (Class<?> inside : TaxiRank.class.getDeclaredClasses()) {
            int seen = inside.getModifiers() & (Modifier.PUBLIC | Modifier.PROTECTED);
            is(inside.getName() + " is seen", seen, 0);
        }
    }

    private static String textOf(Method method) {
        String text = method.getReturnType().getSimpleName() + " " + method.getName()
                + "(" + namesOf(method.getParameterTypes()) + ")";
        String thrown = namesOf(method.getExceptionTypes());
        return thrown.isEmpty() ? text : text + " throws " + thrown;
    }

    private static String namesOf(Class<?>[] types) {
        List<String> names = new ArrayList<>();
        for (Class<?> type : types) {
            names.add(type.getSimpleName());
        }
        return String.join(", ", names);
    }

    public static void main(String[] args) {
        runTestsOf(FaceTests.class);
    }
}
