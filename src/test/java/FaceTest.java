import java.lang.reflect.Constructor;
import java.lang.reflect.Field;
import java.lang.reflect.Method;
import java.lang.reflect.Modifier;
import java.util.ArrayList;
import java.util.Arrays;
import java.util.List;
import java.util.TreeSet;

/** The public face: the class has the document's constant, constructor and methods, and shows no other member. */
public final class FaceTest {
    private static final String[] METHODS = {
        "int feed(int,int,int,int,int)",
        "boolean end(int)",
        "int parish() throws IllegalArgumentException UnsupportedOperationException",
        "int law() throws IllegalArgumentException",
        "int fault()",
        "int thing(int,int) throws IndexOutOfBoundsException NoSuchElementException",
        "int child(int,int) throws IndexOutOfBoundsException NoSuchElementException",
        "int months(int) throws IllegalArgumentException",
        "int birth() throws IllegalStateException",
        "int move(int,int) throws IndexOutOfBoundsException IllegalStateException",
        "int blow(int) throws IndexOutOfBoundsException IllegalStateException",
        "int wish(int,int) throws IndexOutOfBoundsException",
        "int grip(int,int) throws IndexOutOfBoundsException IllegalArgumentException",
        "int change(int,int) throws IndexOutOfBoundsException IllegalArgumentException IllegalStateException",
        "int cut(int) throws IndexOutOfBoundsException IllegalStateException",
        "int moves(int) throws IndexOutOfBoundsException",
        "int first(int) throws IndexOutOfBoundsException",
        "int can(int) throws IndexOutOfBoundsException",
        "int feels(int) throws IllegalArgumentException NoSuchElementException",
        "int odds(int) throws IndexOutOfBoundsException IllegalArgumentException",
        "int ask() throws IllegalArgumentException",
        "int waits(int) throws IndexOutOfBoundsException",
        "int next()",
        "int keep(int) throws IllegalArgumentException",
        "int fates(int) throws IllegalArgumentException",
        "int last()",
        "int gives(int) throws IndexOutOfBoundsException",
        "int trade(int) throws IndexOutOfBoundsException",
        "int ring(int) throws IndexOutOfBoundsException",
        "boolean swap(int,int) throws IndexOutOfBoundsException IllegalArgumentException",
        "int all()",
        "int missing()",
        "int nobody()",
        "int rules(boolean) throws IllegalArgumentException",
        "int tell() throws IllegalArgumentException",
        "int rests(int) throws IndexOutOfBoundsException",
        "int nothing(int) throws IllegalArgumentException",
        "int shut()",
        "int open()",
        "int knotted()",
        "int content()",
        "int richest()",
        "int oldest()",
        "int twins()",
        "int ahead(int,int) throws IndexOutOfBoundsException IllegalArgumentException",
        "int trial(int,boolean) throws IllegalArgumentException",
        "int span(int,boolean) throws IllegalArgumentException",
        "int led(int,boolean) throws IndexOutOfBoundsException",
        "int log(int,int) throws NoSuchElementException",
        "int seed(int)",
        "boolean undo()",
        "void image()",
        "boolean back()",
        "int count(int)",
    };

    public static void main(String[] args) {
        Kit.due("public and final", ShutFists.class.getModifiers(), Modifier.PUBLIC | Modifier.FINAL);
        constants();
        constructors();
        methods();
        readme();
        Kit.close("FaceTest");
    }

    /** The example that README.md shows. */
    private static void readme() {
        ShutFists x = new ShutFists();
        x.feed(0x6368696c, 0x64206120, 0x67726970, 0x20300000, 0);
        x.end(14);
        Kit.due("README: parish", x.parish(), 1);
        Kit.due("README: months", x.months(12), 0);
        Kit.due("README: age", x.child(0, 0), 12);
        Kit.due("README: move", x.move(0, 0), 30);
        Kit.due("README: undo", x.undo(), true);
        Kit.due("README: shut", x.child(0, 2), 31);
    }

    private static void constants() {
        List<String> shown = new ArrayList<>();
        for (Field field : ShutFists.class.getDeclaredFields()) {
            if (isShown(field.getModifiers()) && !field.isSynthetic()) {
                shown.add(Modifier.toString(field.getModifiers()) + " " + field.getType() + " " + field.getName());
            }
        }
        Kit.same("constants", shown.toString(), "[public static final int NONE]");
        Kit.due("NONE", ShutFists.NONE, -1);
    }

    private static void constructors() {
        List<String> shown = new ArrayList<>();
        for (Constructor<?> constructor : ShutFists.class.getDeclaredConstructors()) {
            if (isShown(constructor.getModifiers()) && !constructor.isSynthetic()) {
                shown.add(Modifier.toString(constructor.getModifiers()) + names(constructor.getParameterTypes(), ","));
            }
        }
        Kit.same("constructors", shown.toString(), "[public]");
    }

    private static void methods() {
        TreeSet<String> shown = new TreeSet<>();
        for (Method method : ShutFists.class.getDeclaredMethods()) {
            if (isShown(method.getModifiers()) && !method.isSynthetic()) {
                Kit.same(method.getName(), Modifier.toString(method.getModifiers()), "public");
                String thrown = names(method.getExceptionTypes(), " ");
                shown.add(method.getReturnType() + " " + method.getName() + "(" + names(method.getParameterTypes(), ",") + ")"
                        + (thrown.isEmpty() ? "" : " throws " + thrown));
            }
        }
        Kit.same("methods", shown.toString(), new TreeSet<>(Arrays.asList(METHODS)).toString());
    }

    private static boolean isShown(int modifiers) {
        return !Modifier.isPrivate(modifiers);
    }

    private static String names(Class<?>[] types, String between) {
        List<String> names = new ArrayList<>();
        for (Class<?> type : types) {
            names.add(type.getSimpleName());
        }
        return String.join(between, names);
    }
}
