import java.lang.reflect.Constructor;
import java.lang.reflect.Executable;
import java.lang.reflect.Field;
import java.lang.reflect.Method;
import java.lang.reflect.Modifier;
import java.util.ArrayList;
import java.util.List;
import java.util.Set;
import java.util.TreeSet;

/** "The public face": the class has what the document shows and nothing else that others could see. */
public final class FaceTest {
    private static final Class<?> NAMER = AddressNamer.class;
    private static final Set<String> FACE = new TreeSet<>(List.of(
            "int feed int int int int int", "boolean end int", "boolean poke int int", "int load",
            "int fault int", "int entry int int", "boolean holds int long", "int row int int",
            "long rowAt int", "int find long", "int frame int int", "int name int int",
            "int file int int", "int symbol int", "int count int"));
    /** Rule 11 of LANGUAGE.md: "some twelve classes", "some twenty fields", "at most seven parameters". */
    private static final int CLASSES_MOST = 12;
    private static final int FIELDS_MOST = 20;
    private static final int PARAMETERS_MOST = 7;

    public static void main(String[] args) {
        theClass();
        theConstructor();
        theMethods();
        theFields();
        classesInside();
        staticsAreFinal();
        nothingIsLarge();
        Due.finish("FaceTest");
    }

    /** "public final class AddressNamer". */
    private static void theClass() {
        Due.is("modifiers", NAMER.getModifiers(), Modifier.PUBLIC | Modifier.FINAL);
        Due.is("no package", NAMER.getPackageName().isEmpty(), true);
        Due.is("above it Object alone", NAMER.getSuperclass() == Object.class, true);
        Due.is("interfaces", NAMER.getInterfaces().length, 0);
    }

    /** "public AddressNamer();". */
    private static void theConstructor() {
        Constructor<?>[] all = NAMER.getDeclaredConstructors();
        Due.is("constructors", all.length, 1);
        for (Constructor<?> c : all) {
            Due.is("the constructor is public", c.getModifiers(), Modifier.PUBLIC);
            Due.is("its parameters", c.getParameterCount(), 0);
            Due.is("its exceptions", c.getExceptionTypes().length, 0);
        }
    }

    private static String signature(Method m) {
        StringBuilder s = new StringBuilder(m.getReturnType().getName()).append(' ').append(m.getName());
        for (Class<?> p : m.getParameterTypes()) {
            s.append(' ').append(p.getName());
        }
        return s.toString();
    }

    private static void theMethods() {
        Set<String> seen = new TreeSet<>();
        for (Method m : NAMER.getDeclaredMethods()) {
            if (Modifier.isPublic(m.getModifiers())) {
                seen.add(signature(m));
                Due.is(m.getName() + " is of an object", Modifier.isStatic(m.getModifiers()), false);
                Due.is(m.getName() + " tells no exceptions", m.getExceptionTypes().length, 0);
            } else {
                Due.is(m.getName() + " is private", Modifier.isPrivate(m.getModifiers()), true);
            }
        }
        Due.is("the public methods " + seen, seen.equals(FACE), true);
    }

    /** "public static final int NONE = -1;". */
    private static void theFields() {
        int shown = 0;
        for (Field f : NAMER.getDeclaredFields()) {
            if (Modifier.isPrivate(f.getModifiers())) {
                continue;
            }
            shown++;
            Due.is(f.getName() + " is NONE", f.getName().equals("NONE"), true);
            Due.is("its modifiers", f.getModifiers(), Modifier.PUBLIC | Modifier.STATIC | Modifier.FINAL);
            Due.is("its type is int", f.getType() == int.class, true);
        }
        Due.is("fields that others see", shown, 1);
    }

    private static List<Class<?>> classes() {
        List<Class<?>> all = new ArrayList<>(List.of(NAMER));
        all.addAll(List.of(NAMER.getDeclaredClasses()));
        return all;
    }

    /** Rules 1 and 2: they are static and not public; no private method bears the name of a public one. */
    private static void classesInside() {
        Set<String> names = new TreeSet<>();
        for (String s : FACE) {
            names.add(s.split(" ")[1]);
        }
        for (Class<?> c : NAMER.getDeclaredClasses()) {
            Due.is(c.getName() + " is static", Modifier.isStatic(c.getModifiers()), true);
            boolean open = Modifier.isPublic(c.getModifiers()) || Modifier.isProtected(c.getModifiers());
            Due.is(c.getName() + " is open", open, false);
        }
        for (Class<?> c : classes()) {
            for (Method m : c.getDeclaredMethods()) {
                boolean ofTheFace = c == NAMER && Modifier.isPublic(m.getModifiers());
                Due.is(c.getName() + "." + m.getName(), ofTheFace || !names.contains(m.getName()), true);
            }
        }
    }

    /** Rule 5: two objects have nothing in common that could change. */
    private static void staticsAreFinal() {
        for (Class<?> c : classes()) {
            for (Field f : c.getDeclaredFields()) {
                boolean changes = Modifier.isStatic(f.getModifiers()) && !Modifier.isFinal(f.getModifiers());
                Due.is(c.getName() + "." + f.getName() + " is static and changes", changes, false);
            }
        }
    }

    private static void nothingIsLarge() {
        Due.is("classes", classes().size() <= CLASSES_MOST, true);
        for (Class<?> c : classes()) {
            int fields = 0;
            for (Field f : c.getDeclaredFields()) {
                fields += Modifier.isStatic(f.getModifiers()) ? 0 : 1;
            }
            Due.is(c.getName() + " has " + fields + " fields", fields <= FIELDS_MOST, true);
            List<Executable> calls = new ArrayList<>(List.of(c.getDeclaredMethods()));
            calls.addAll(List.of(c.getDeclaredConstructors()));
            for (Executable m : calls) {
                Due.is(c.getName() + "." + m.getName(), m.getParameterCount() <= PARAMETERS_MOST, true);
            }
        }
    }
}
