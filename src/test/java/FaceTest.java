import java.lang.reflect.Constructor;
import java.lang.reflect.Field;
import java.lang.reflect.Method;
import java.lang.reflect.Modifier;
import java.util.ArrayList;
import java.util.Arrays;
import java.util.Collections;
import java.util.HashSet;
import java.util.List;
import java.util.Set;

/** The face of the class is the document's, and nothing else of it can be seen. */
public final class FaceTest {
    private static final String[] FACE = {
        "int height(int,int) IndexOutOfBoundsException IllegalArgumentException UnsupportedOperationException",
        "int rain(int) IllegalArgumentException",
        "int letters(int) IllegalArgumentException UnsupportedOperationException",
        "int stoneOf(int,int) IndexOutOfBoundsException IllegalArgumentException",
        "int under()",
        "int flood(int) IllegalArgumentException",
        "int floodAgain(int) IllegalArgumentException",
        "int clearIn() NoSuchElementException",
        "int traveller(int) IllegalArgumentException UnsupportedOperationException",
        "int travellerOf(int,int) IndexOutOfBoundsException IllegalArgumentException",
        "int fee(int) IndexOutOfBoundsException",
        "int setOut(int) IndexOutOfBoundsException UnsupportedOperationException",
        "int stop(int) IndexOutOfBoundsException UnsupportedOperationException",
        "int go(int) IndexOutOfBoundsException UnsupportedOperationException",
        "int leave(int) IndexOutOfBoundsException UnsupportedOperationException",
        "int pass(int) IllegalArgumentException",
        "int crossedIn(int) IndexOutOfBoundsException NoSuchElementException",
        "int wetSteps(int) IllegalArgumentException NoSuchElementException",
        "int kinds()",
        "int type(char) IllegalStateException",
        "int ask() IllegalArgumentException",
        "int answer(int) NoSuchElementException",
        "int errorPosition() NoSuchElementException",
        "int refusal(boolean) NoSuchElementException",
        "int describe()",
        "char written(int) NoSuchElementException",
        "int account(int) IllegalArgumentException",
        "int lettersAgain()",
        "double meanWet() ArithmeticException",
        "float crossingShare() ArithmeticException",
        "int undo() IllegalStateException",
        "int save()",
        "int restore() IllegalStateException",
    };

    public static void main(String[] args) {
        methods();
        constructors();
        fields();
        classesInside();
        Check.end("FaceTest");
    }

    private static String told(Method method) {
        StringBuilder text = new StringBuilder();
        text.append(method.getReturnType().getSimpleName()).append(' ').append(method.getName()).append('(');
        Class<?>[] taken = method.getParameterTypes();
        for (int index = 0; index < taken.length; index++) {
            text.append(index == 0 ? "" : ",").append(taken[index].getSimpleName());
        }
        text.append(')');
        for (Class<?> thrown : method.getExceptionTypes()) {
            text.append(' ').append(thrown.getSimpleName());
        }
        return text.toString();
    }

    private static void methods() {
        List<String> got = new ArrayList<>();
        Set<String> names = new HashSet<>();
        for (Method method : FordToll.class.getDeclaredMethods()) {
            if (!Modifier.isPrivate(method.getModifiers())) {
                got.add(told(method));
                names.add(method.getName());
                Check.is("The public face: public, not static: " + method, method.getModifiers(), Modifier.PUBLIC);
            }
        }
        List<String> due = new ArrayList<>(Arrays.asList(FACE));
        Collections.sort(got);
        Collections.sort(due);
        Check.is("The public face: methods", got, due);
        for (Method method : FordToll.class.getDeclaredMethods()) {
            if (Modifier.isPrivate(method.getModifiers())) {
                Check.is("The public face: a private method's name is its own: " + method, names.contains(method.getName()), false);
            }
        }
    }

    private static void constructors() {
        Constructor<?>[] all = FordToll.class.getDeclaredConstructors();
        Check.is("The public face: constructors", all.length, 1);
        Check.is("The public face: public", all[0].getModifiers(), Modifier.PUBLIC);
        Check.is("The public face: takes nothing", all[0].getParameterCount(), 0);
    }

    private static void fields() {
        Check.is("The public face: public and final", FordToll.class.getModifiers(), Modifier.PUBLIC | Modifier.FINAL);
        int counted = 0;
        for (Field field : FordToll.class.getDeclaredFields()) {
            Check.is("The public face: private: " + field, Modifier.isPrivate(field.getModifiers()), true);
            if (Modifier.isStatic(field.getModifiers())) {
                Check.is("The public face: final: " + field, Modifier.isFinal(field.getModifiers()), true);
            } else {
                counted++;
            }
        }
        Check.is("The public face: some twenty fields at most", counted <= 20, true);
    }

    private static void classesInside() {
        for (Class<?> inside : FordToll.class.getDeclaredClasses()) {
            Check.is("The public face: private: " + inside, Modifier.isPrivate(inside.getModifiers()), true);
            Check.is("The public face: static: " + inside, Modifier.isStatic(inside.getModifiers()), true);
        }
    }
}
