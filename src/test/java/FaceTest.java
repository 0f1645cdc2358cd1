import java.lang.reflect.Constructor;
import java.lang.reflect.Field;
import java.lang.reflect.Method;
import java.lang.reflect.Modifier;
import java.util.Arrays;
import java.util.Set;
import java.util.TreeSet;

/** The public face is the document's, and no other member can be seen from outside. */
public final class FaceTest {
    private static final String[] METHODS = {
        "void number(long) IllegalStateException",
        "void pair(long,long) IllegalStateException",
        "int letter(int) IllegalStateException IllegalArgumentException UnsupportedOperationException",
        "void erase()",
        "void keep()",
        "void take() NoSuchElementException",
        "boolean put(long) UnsupportedOperationException",
        "long get() NoSuchElementException",
        "long remove() NoSuchElementException",
        "boolean seek(int) IllegalArgumentException",
        "boolean move(boolean) NoSuchElementException",
        "boolean there()",
        "int length() NoSuchElementException",
        "long part(int) NoSuchElementException IndexOutOfBoundsException",
        "long value() NoSuchElementException",
        "int rank()",
        "void select(int) IndexOutOfBoundsException",
        "int range()",
        "int cut()",
        "int begins() IllegalStateException",
        "void load(long,int,long) IllegalStateException IllegalArgumentException UnsupportedOperationException",
        "int compact()",
        "int about(int) IllegalArgumentException",
        "int clear()",
    };

    public static void main(String[] args) throws ReflectiveOperationException {
        Class<?> face = BranchStore.class;
        Check.same("the class", Modifier.toString(face.getModifiers()), "public final");
        Check.same("NONE", face.getField("NONE").getInt(null), -1);
        methods(face);
        constructors(face);
        fields(face);
        classesInside(face);
        Check.end();
    }

    private static void methods(Class<?> face) {
        Set<String> seen = new TreeSet<>();
        Set<String> publicNames = new TreeSet<>();
        Set<String> privateNames = new TreeSet<>();
        for (Method m : face.getDeclaredMethods()) {
            if (Modifier.isPrivate(m.getModifiers())) {
                privateNames.add(m.getName());
            } else {
                publicNames.add(m.getName());
                seen.add(Modifier.toString(m.getModifiers()) + " " + told(m));
            }
        }
        Set<String> due = new TreeSet<>();
        for (String m : METHODS) {
            due.add("public " + m);
        }
        Check.same("the methods", seen, due);
        privateNames.retainAll(publicNames);
        Check.same("private methods with public names", privateNames, new TreeSet<String>());
    }

    private static String told(Method m) {
        StringBuilder text = new StringBuilder(m.getReturnType().getSimpleName()).append(' ').append(m.getName()).append('(');
        for (int i = 0; i < m.getParameterCount(); i++) {
            text.append(i > 0 ? "," : "").append(m.getParameterTypes()[i].getSimpleName());
        }
        text.append(')');
        for (Class<?> thrown : m.getExceptionTypes()) {
            text.append(' ').append(thrown.getSimpleName());
        }
        return text.toString();
    }

    private static void constructors(Class<?> face) {
        Constructor<?>[] all = face.getDeclaredConstructors();
        Check.same("constructors", Arrays.toString(all), "[public BranchStore(int)]");
    }

    private static void fields(Class<?> face) {
        for (Field f : face.getDeclaredFields()) {
            int m = f.getModifiers();
            String due = f.getName().equals("NONE") ? "public static final" : "private";
            Check.same("field " + f.getName(), Modifier.toString(m).startsWith(due), true);
            Check.same("field " + f.getName() + " is final if static", !Modifier.isStatic(m) || Modifier.isFinal(m), true);
        }
    }

    private static void classesInside(Class<?> face) {
        for (Class<?> c : face.getDeclaredClasses()) {
            int m = c.getModifiers();
            Check.same(c + " is static", Modifier.isStatic(m), true);
            Check.same(c + " is not to be seen from far", Modifier.isPublic(m) || Modifier.isProtected(m), false);
        }
    }
}
