import java.lang.reflect.Constructor;
import java.lang.reflect.Executable;
import java.lang.reflect.Field;
import java.lang.reflect.Method;
import java.lang.reflect.Modifier;
import java.util.ArrayList;
import java.util.Arrays;
import java.util.Collections;
import java.util.HashSet;
import java.util.List;
import java.util.Set;

/** "The public face", and of LANGUAGE.md what the compiled class shows: rules 1, 2, 5, 6 and 11. */
public final class FaceTest extends Checks {
    private static final String[] FACE = {
        "public PatchHouse()",
        "public int PatchHouse.feed(int,int,int,int,int)",
        "public int PatchHouse.end(int)",
        "public int PatchHouse.patch(int)",
        "public int PatchHouse.load(int)",
        "public int PatchHouse.save(int)",
        "public int PatchHouse.out(int) throws java.util.NoSuchElementException",
        "public int PatchHouse.run(int,int)",
        "public int PatchHouse.look(int)",
        "public int PatchHouse.number(int) throws java.util.NoSuchElementException",
        "public long PatchHouse.real(int) throws java.util.NoSuchElementException",
        "public int PatchHouse.slot(int,int)",
        "public long PatchHouse.member(int,int) throws java.util.NoSuchElementException",
        "public int PatchHouse.same(int,int)",
        "public static final int PatchHouse.NONE",
    };

    private static void holds(String what, boolean is) {
        due(what, is ? 1 : 0, 1);
    }

    private static boolean isPrivate(int modifiers) {
        return Modifier.isPrivate(modifiers);
    }

    /** The constants, constructors and methods of the document, and no other that is not private. */
    private static void theFace() {
        List<String> seen = new ArrayList<>();
        for (Constructor<?> made : PatchHouse.class.getDeclaredConstructors()) {
            seen.add(made.toString());
        }
        for (Method method : PatchHouse.class.getDeclaredMethods()) {
            if (!isPrivate(method.getModifiers())) {
                seen.add(method.toString());
            }
        }
        for (Field field : PatchHouse.class.getDeclaredFields()) {
            if (!isPrivate(field.getModifiers())) {
                seen.add(field.toString());
            }
        }
        List<String> wanted = new ArrayList<>(Arrays.asList(FACE));
        Collections.sort(wanted);
        Collections.sort(seen);
        for (String one : seen) {
            holds("not of the face: " + one, wanted.contains(one));
        }
        for (String one : wanted) {
            holds("is of the face: " + one, seen.contains(one));
        }
        holds("public final class", Modifier.isPublic(PatchHouse.class.getModifiers())
            && Modifier.isFinal(PatchHouse.class.getModifiers()));
        holds("no package", PatchHouse.class.getPackageName().isEmpty());
        holds("it is a class of its own", PatchHouse.class.getSuperclass() == Object.class
            && PatchHouse.class.getInterfaces().length == 0);
        due("NONE", PatchHouse.NONE, -1);
    }

    private static List<Class<?>> classes() {
        List<Class<?>> all = new ArrayList<>();
        all.add(PatchHouse.class);
        all.addAll(Arrays.asList(PatchHouse.class.getDeclaredClasses()));
        return all;
    }

    /** Rules 1, 2: the classes inside are static and not public; no private method has a public one's name. */
    private static void theClassesInside() {
        Set<String> names = new HashSet<>();
        for (Method method : PatchHouse.class.getDeclaredMethods()) {
            if (Modifier.isPublic(method.getModifiers())) {
                names.add(method.getName());
            }
        }
        due("methods of the face", names.size(), 13);
        for (Class<?> inside : PatchHouse.class.getDeclaredClasses()) {
            int modifiers = inside.getModifiers();
            holds(inside + " is static", Modifier.isStatic(modifiers));
            holds(inside + " is not public", !Modifier.isPublic(modifiers) && !Modifier.isProtected(modifiers));
        }
        for (Class<?> one : classes()) {
            for (Method method : one.getDeclaredMethods()) {
                holds("the name of " + method, method.getDeclaringClass() == PatchHouse.class
                    && Modifier.isPublic(method.getModifiers()) || !names.contains(method.getName()));
                holds(method + " is no lambda", !method.getName().startsWith("lambda$"));
                String name = method.getName();
                holds("no " + name, !name.equals("equals") && !name.equals("hashCode") && !name.equals("toString"));
            }
        }
    }

    /** Rule 5: static fields are final constants, or arrays of numbers. */
    private static void staticFields() {
        Set<Class<?>> types = new HashSet<>(Arrays.asList(int.class, long.class, boolean.class, char.class, String.class,
            int[].class, long[].class, char[].class, byte[].class));
        for (Class<?> one : classes()) {
            for (Field field : one.getDeclaredFields()) {
                if (Modifier.isStatic(field.getModifiers())) {
                    holds(field + " is final", Modifier.isFinal(field.getModifiers()));
                    holds(field + " is a constant", types.contains(field.getType()));
                }
            }
        }
    }

    /** Rules 3 and 11: seven parameters, some twelve classes, some twenty fields; no type but those that are allowed. */
    private static void measures() {
        holds("some twelve classes", classes().size() <= 12);
        for (Class<?> one : classes()) {
            int fields = 0;
            for (Field field : one.getDeclaredFields()) {
                if (!Modifier.isStatic(field.getModifiers())) {
                    fields++;
                    checkType(field.toString(), field.getType());
                }
            }
            holds(one + " has some twenty fields", fields <= 20);
            List<Executable> all = new ArrayList<>(Arrays.asList(one.getDeclaredMethods()));
            all.addAll(Arrays.asList(one.getDeclaredConstructors()));
            for (Executable method : all) {
                holds(method + " has seven parameters", method.getParameterCount() <= 7);
                for (Class<?> type : method.getParameterTypes()) {
                    checkType(method.toString(), type);
                }
            }
        }
    }

    private static void checkType(String what, Class<?> type) {
        Class<?> member = type.isArray() ? type.getComponentType() : type;
        holds("the type in " + what, member.isPrimitive() || member == String.class || classes().contains(member));
    }

    public static void main(String[] args) {
        theFace();
        theClassesInside();
        staticFields();
        measures();
        Kit.finish();
    }
}
