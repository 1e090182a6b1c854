import java.lang.reflect.AccessibleObject;
import java.lang.reflect.Array;
import java.lang.reflect.Constructor;
import java.lang.reflect.Executable;
import java.lang.reflect.Field;
import java.lang.reflect.InvocationTargetException;
import java.lang.reflect.Method;
import java.lang.reflect.Modifier;
import java.util.ArrayList;
import java.util.Arrays;
import java.util.Collections;
import java.util.Comparator;
import java.util.List;
import java.util.function.Supplier;

/**
 * LANGUAGE.md, rule 7: no index is used that was not looked at. So no method of the classes inside throws, whatever
 * numbers it is given, in any order, also such as no caller gives it now.
 */
public final class NeverThrowsTest {
    private static final int[] NUMBERS = {
        Integer.MIN_VALUE, -1000, -1, 0, 1, 2, 3, 4, 5, 6, 9, 10, 39, 40, 41, 79, 80, 81, 998, 999, 1000, Integer.MAX_VALUE};
    private static final char[] SIGNS = {0, ' ', '!', '*', '0', '9', '=', 255};
    private static final List<Supplier<JoinedRuns>> STARTS =
        List.of(JoinedRuns::new, Made::withAll, Made::mostPairs, Made::fullOfBoth, Made::fullPad, () -> Made.withText("3-0*1;2=1,2*999;1@5"));

    private static int tried = 0;

    private NeverThrowsTest() {
    }

    public static void main(String[] args) throws ReflectiveOperationException {
        Checks.about("LANGUAGE.md, rule 7");
        for (Supplier<JoinedRuns> start : STARTS) {
            for (Method method : methods()) {
                tryOut(method, partsOf(start.get()));
            }
            List<Object> parts = partsOf(start.get());
            for (Method method : methods()) {
                tryOut(method, parts);
            }
            Collections.reverse(parts);
            for (Method method : methods()) {
                tryOut(method, parts);
            }
        }
        Checks.due("many calls were tried", tried > 50_000, true);
        Checks.end();
    }

    private static List<Method> methods() {
        List<Method> all = new ArrayList<>();
        for (Class<?> inside : JoinedRuns.class.getDeclaredClasses()) {
            all.addAll(Arrays.asList(inside.getDeclaredMethods()));
        }
        all.sort(Comparator.comparing(Method::toString));
        return all;
    }

    private static void tryOut(Method method, List<Object> parts) throws ReflectiveOperationException {
        open(method);
        for (List<Object> arguments : argumentsOf(method, parts)) {
            for (Object part : objectsOf(method, parts)) {
                tried++;
                try {
                    method.invoke(part, arguments.toArray());
                } catch (InvocationTargetException thrown) {
                    Checks.due(method + " with " + arguments, thrown.getCause(), "not this");
                }
            }
        }
    }

    private static List<Object> objectsOf(Method method, List<Object> parts) {
        return Modifier.isStatic(method.getModifiers()) ? Collections.singletonList(null) : some(method.getDeclaringClass(), parts);
    }

    private static List<List<Object>> argumentsOf(Executable method, List<Object> parts) {
        List<List<Object>> all = List.of(List.of());
        for (Class<?> type : method.getParameterTypes()) {
            List<List<Object>> longer = new ArrayList<>();
            for (List<Object> begun : all) {
                for (Object next : valuesOf(type, parts)) {
                    List<Object> more = new ArrayList<>(begun);
                    more.add(next);
                    longer.add(more);
                }
            }
            all = longer;
        }
        return all;
    }

    private static List<Object> valuesOf(Class<?> type, List<Object> parts) {
        List<Object> all = new ArrayList<>();
        if (type == int.class) {
            for (int number : NUMBERS) {
                all.add(number);
            }
        } else if (type == char.class) {
            for (char sign : SIGNS) {
                all.add(sign);
            }
        } else {
            all.addAll(some(type, parts));
        }
        Checks.due("the test has values of " + type, all.size() > 0, true);
        return all;
    }

    /** The first and the last part of a class: a method that is given one of them meets itself and another. */
    private static List<Object> some(Class<?> type, List<Object> parts) {
        List<Object> all = new ArrayList<>(parts);
        all.removeIf(part -> part.getClass() != type);
        return all.size() < 3 ? all : List.of(all.get(0), all.get(all.size() - 1));
    }

    /** The objects of the classes inside that the object holds, and those that it makes of them when it is called. */
    private static List<Object> partsOf(JoinedRuns x) throws ReflectiveOperationException {
        List<Object> parts = new ArrayList<>();
        addPartsOf(x, parts);
        for (Class<?> inside : JoinedRuns.class.getDeclaredClasses()) {
            if (some(inside, parts).isEmpty()) {
                for (Constructor<?> constructor : inside.getDeclaredConstructors()) {
                    open(constructor);
                    for (List<Object> arguments : argumentsOf(constructor, parts)) {
                        parts.add(constructor.newInstance(arguments.toArray()));
                    }
                }
            }
        }
        return parts;
    }

    private static void addPartsOf(Object whole, List<Object> parts) throws ReflectiveOperationException {
        for (Field field : whole.getClass().getDeclaredFields()) {
            open(field);
            Object held = field.get(whole);
            if (field.getType().isArray()) {
                for (int k = 0; k < Array.getLength(held); k++) {
                    addPart(Array.get(held, k), parts);
                }
            } else {
                addPart(held, parts);
            }
        }
    }

    private static void addPart(Object part, List<Object> parts) throws ReflectiveOperationException {
        if (part.getClass().getEnclosingClass() == JoinedRuns.class && !parts.contains(part)) {
            parts.add(part);
            addPartsOf(part, parts);
        }
    }

    private static void open(AccessibleObject member) {
        member.setAccessible(true);
    }
}
