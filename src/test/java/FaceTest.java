import java.lang.reflect.Constructor;
import java.lang.reflect.Field;
import java.lang.reflect.Method;
import java.lang.reflect.Modifier;
import java.util.Arrays;
import java.util.Set;
import java.util.TreeSet;

/** The face of the class is the one of the document, and nothing else is seen from outside. */
public final class FaceTest {
    private static final String[] FACE = {
        "int addHand(int,int,int) IllegalArgumentException,IllegalStateException",
        "int offer(int,int,int) IndexOutOfBoundsException,IllegalArgumentException",
        "int offerRow(int,int,int,int) IndexOutOfBoundsException,IllegalArgumentException",
        "int mix(int) IndexOutOfBoundsException",
        "int join(int,int) IndexOutOfBoundsException,IllegalArgumentException,IllegalStateException",
        "int setLuck(int,int) IndexOutOfBoundsException,IllegalArgumentException",
        "int hands() ",
        "int holds(int) IndexOutOfBoundsException",
        "int roomOf(int) IndexOutOfBoundsException",
        "int seenBy(int) IndexOutOfBoundsException",
        "int loadOf(int) IndexOutOfBoundsException",
        "int luckOf(int) IndexOutOfBoundsException",
        "int valueAt(int,int) IndexOutOfBoundsException",
        "int weightAt(int,int) IndexOutOfBoundsException",
        "int cameAs(int,int) IndexOutOfBoundsException",
        "int placeOf(int,int) IndexOutOfBoundsException",
        "int sum(int) IndexOutOfBoundsException",
        "int lowest(int) IndexOutOfBoundsException",
        "int rankOf(int,int) IndexOutOfBoundsException",
        "int middle(int) IndexOutOfBoundsException",
        "int shared(int,int) IndexOutOfBoundsException",
        "int luckIn(int,int) IndexOutOfBoundsException,IllegalArgumentException",
        "int drawsUntil(int,int,int) IndexOutOfBoundsException,IllegalArgumentException",
        "int wouldTake(int,int) IndexOutOfBoundsException,IllegalArgumentException",
        "int wouldStay(int,int) IndexOutOfBoundsException,IllegalArgumentException",
        "int untilTaken(int) IndexOutOfBoundsException",
        "int weightWanted(int) IndexOutOfBoundsException",
        "int wouldJoin(int,int) IndexOutOfBoundsException",
        "double meanValue(int) IndexOutOfBoundsException",
        "long digest() ",
    };

    public static void main(String[] args) {
        int modifiers = FairHandful.class.getModifiers();
        Check.that("the class is not public and final", Modifier.isPublic(modifiers) && Modifier.isFinal(modifiers));
        Check.same("how many constructors", FairHandful.class.getDeclaredConstructors().length, 1);
        for (Constructor<?> made : FairHandful.class.getDeclaredConstructors()) {
            Check.that("a constructor that is not due: " + made,
                Modifier.isPublic(made.getModifiers()) && made.getParameterCount() == 0);
        }
        checkMethods();
        checkPrivateNames();
        for (Field field : FairHandful.class.getDeclaredFields()) {
            Check.that("a field that is not private: " + field, Modifier.isPrivate(field.getModifiers()));
        }
        for (Class<?> inside : FairHandful.class.getDeclaredClasses()) {
            Check.that("a class inside that is seen from outside: " + inside,
                !Modifier.isPublic(inside.getModifiers()) && !Modifier.isProtected(inside.getModifiers()));
        }
        Check.end();
    }

    private static void checkMethods() {
        Set<String> due = new TreeSet<>(Arrays.asList(FACE));
        Set<String> seen = new TreeSet<>();
        for (Method method : FairHandful.class.getDeclaredMethods()) {
            if (Modifier.isPublic(method.getModifiers())) {
                seen.add(told(method));
            } else {
                Check.that("a method that is neither public nor private: " + method,
                    Modifier.isPrivate(method.getModifiers()));
            }
        }
        for (String one : due) {
            Check.that("missing in the face: " + one, seen.contains(one));
        }
        for (String one : seen) {
            Check.that("not due in the face: " + one, due.contains(one));
        }
    }

    /** LANGUAGE.md's rule 1: no private method bears the name of a public one; inside classes neither. */
    private static void checkPrivateNames() {
        Set<String> face = new TreeSet<>();
        for (String one : FACE) {
            face.add(one.substring(one.indexOf(' ') + 1, one.indexOf('(')));
        }
        for (Method method : FairHandful.class.getDeclaredMethods()) {
            Check.that("a private method with a name of the face: " + method,
                Modifier.isPublic(method.getModifiers()) || !face.contains(method.getName()));
        }
        for (Class<?> inside : FairHandful.class.getDeclaredClasses()) {
            for (Method method : inside.getDeclaredMethods()) {
                Check.that("a method inside with a name of the face: " + method, !face.contains(method.getName()));
            }
        }
    }

    private static String told(Method method) {
        return method.getReturnType().getSimpleName() + " " + method.getName()
            + "(" + names(method.getParameterTypes()) + ") " + names(method.getExceptionTypes());
    }

    private static String names(Class<?>[] classes) {
        StringBuilder text = new StringBuilder();
        for (Class<?> one : classes) {
            text.append(text.length() == 0 ? "" : ",").append(one.getSimpleName());
        }
        return text.toString();
    }
}
