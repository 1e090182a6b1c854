import java.lang.reflect.Constructor;
import java.lang.reflect.Field;
import java.lang.reflect.Member;
import java.lang.reflect.Method;
import java.lang.reflect.Modifier;
import java.util.ArrayList;
import java.util.Arrays;
import java.util.Collections;
import java.util.List;
import java.util.Set;
import java.util.TreeSet;

/** The chapter "The public face", and the rules of LANGUAGE.md that reflection can see: 1, 5 and part of 2, 6 and 11. */
public final class FaceTest {
    private static final String[] METHODS = {
        "append(int,int,int)", "insert(int,int,int,int)", "remove(int,int,int)", "set(int,int,int)", "sort(int)", "turn(int,int)",
        "merge(int,int,int,int)", "run(int,int,int)", "value(int,int)", "find(int,int,int)", "ofColumn(int,int)", "group(int,int,int)",
        "count(int)", "pair(int,int,int,int)", "joined(int,int,int)", "alike(int,int)", "saves(int)", "bestSet(int,int,int)", "put(long)",
        "wipe()", "fault()", "carryOut()", "undo()", "save(int)", "restore(int)"};
    private static final String[] CONSTANTS = {"NO_SUCH=-1", "BAD_VALUE=-2", "BAD_TEXT=-3", "TOO_MANY=-4", "NOT_POSSIBLE=-5", "NONE=-6"};
    private static final Class<?> FACE = JoinedRuns.class;

    private FaceTest() {
    }

    public static void main(String[] args) throws Exception {
        theClass();
        constants();
        methods();
        classesInside();
        Checks.end();
    }

    private static void theClass() {
        Checks.due("modifiers of the class", Modifier.toString(FACE.getModifiers()), "public final");
        Checks.due("its package", FACE.getPackageName(), "");
        Checks.due("what it extends", FACE.getSuperclass(), Object.class);
        List<String> constructors = new ArrayList<>();
        for (Constructor<?> one : FACE.getDeclaredConstructors()) {
            constructors.add(one.toString());
        }
        Checks.due("constructors", constructors, List.of("public JoinedRuns()"));
    }

    private static void constants() throws Exception {
        List<String> seen = new ArrayList<>();
        for (Field field : FACE.getDeclaredFields()) {
            if (!Modifier.isPrivate(field.getModifiers())) {
                Checks.due("modifiers of " + field.getName(), Modifier.toString(field.getModifiers()) + " " + field.getType(), "public static final int");
                seen.add(field.getName() + "=" + field.get(null));
            }
        }
        Checks.due("constants", sorted(seen), sorted(Arrays.asList(CONSTANTS)));
    }

    private static void methods() {
        List<String> open = new ArrayList<>();
        Set<String> names = new TreeSet<>();
        for (Method method : FACE.getDeclaredMethods()) {
            if (!Modifier.isPrivate(method.getModifiers())) {
                Checks.due("modifiers of " + method.getName(), Modifier.toString(method.getModifiers()) + " " + method.getReturnType(), "public int");
                open.add(method.getName() + Arrays.toString(method.getParameterTypes()).replace("[", "(").replace("]", ")").replace(" ", ""));
                names.add(method.getName());
            }
        }
        Checks.due("methods", sorted(open), sorted(Arrays.asList(METHODS)));
        for (Method method : FACE.getDeclaredMethods()) {
            if (Modifier.isPrivate(method.getModifiers())) {
                Checks.due("a private method has the public name " + method.getName(), names.contains(method.getName()), false);
            }
        }
    }

    private static void classesInside() {
        Checks.due("no more than twelve classes", FACE.getDeclaredClasses().length <= 12, true);
        List<Class<?>> classes = new ArrayList<>(Arrays.asList(FACE.getDeclaredClasses()));
        for (Class<?> inside : classes) {
            Checks.due(inside + " is static", Modifier.isStatic(inside.getModifiers()), true);
            Checks.due(inside + " is open", Modifier.isPublic(inside.getModifiers()) || Modifier.isProtected(inside.getModifiers()), false);
            for (Method method : inside.getDeclaredMethods()) {
                boolean own = Set.of("equals", "hashCode", "toString").contains(method.getName()) && !inside.isRecord();
                Checks.due(method + " is an object's own", own, false);
            }
        }
        classes.add(FACE);
        for (Class<?> any : classes) {
            int fields = 0;
            for (Field field : any.getDeclaredFields()) {
                boolean fixed = Modifier.isStatic(field.getModifiers());
                fields += fixed ? 0 : 1;
                Checks.due(field + " is static and changes", fixed && !isConstant(field), false);
            }
            Checks.due(any + " has more than twenty fields", fields > 20, false);
        }
    }

    private static boolean isConstant(Member field) {
        return Modifier.isFinal(field.getModifiers());
    }

    private static List<String> sorted(List<String> list) {
        List<String> copy = new ArrayList<>(list);
        Collections.sort(copy);
        return copy;
    }
}
