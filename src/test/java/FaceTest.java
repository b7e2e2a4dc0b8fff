import java.lang.reflect.Constructor;
import java.lang.reflect.Field;
import java.lang.reflect.Method;
import java.lang.reflect.Modifier;
import java.util.Arrays;
import java.util.TreeSet;

/** The public face: all that the document names, and nothing else that can be seen from outside. */
public final class FaceTest {
    private static final Checks c = new Checks("FaceTest");
    private static final String[] METHODS = {
        "int as(int,int)", "int append(int)", "int beat(int)", "int both(int,int)", "int bring(int)",
        "int chunk(int,int)", "int count(int)", "int create(int,int)", "int down(int)", "int drawn(int,int,int)",
        "int fault()", "int feed(int)", "int file(int,int)", "int find(int)", "int house()", "int image(int)",
        "int left(int)", "int mend()", "int mends()", "int part(int,int,int)", "int put(int,int,int)",
        "int read(int,int,int)", "int remove(int)", "int restore(int)", "int server(int,int)", "int spoil(int,int)",
        "int strength(int)", "int sums(int)", "int target(int)", "int tick(int)", "int undo()", "int up(int)",
        "long odds(int,int,int)"};

    public static void main(String[] args) throws ReflectiveOperationException {
        c.about("the class");
        int isPublicFinal = Modifier.PUBLIC | Modifier.FINAL;
        c.due("modifiers", GreatChunks.class.getModifiers() & (isPublicFinal | Modifier.ABSTRACT), isPublicFinal);
        constructors();
        constants();
        methods();
        inside();
        c.end();
    }

    private static void constructors() {
        c.about("constructors");
        Constructor<?>[] all = GreatChunks.class.getDeclaredConstructors();
        c.due("how many", all.length, 1);
        c.due("parameters", all[0].getParameterCount(), 0);
        c.due("public", Modifier.isPublic(all[0].getModifiers()) ? 1 : 0, 1);
    }

    private static void constants() throws ReflectiveOperationException {
        c.about("constants");
        String[] names = {"NONE", "BAD", "STATE", "FULL", "LOST", "FAILED", "STALE", "DOWN"};
        for (int i = 0; i < names.length; i++) {
            Field field = GreatChunks.class.getField(names[i]);
            c.due(names[i], field.getInt(null), -1000000 - i);
            c.due(names[i] + " is final", Modifier.isFinal(field.getModifiers()) ? 1 : 0, 1);
        }
        int seen = 0;
        for (Field field : GreatChunks.class.getDeclaredFields()) {
            seen += Modifier.isPrivate(field.getModifiers()) ? 0 : 1;
            boolean changes = Modifier.isStatic(field.getModifiers()) && !Modifier.isFinal(field.getModifiers());
            c.due(field.getName() + " is a static field that can change", changes ? 1 : 0, 0);
        }
        c.due("fields that can be seen", seen, names.length);
    }

    private static void methods() {
        c.about("methods");
        TreeSet<String> seen = new TreeSet<>();
        TreeSet<String> publicNames = new TreeSet<>();
        TreeSet<String> privateNames = new TreeSet<>();
        for (Method m : GreatChunks.class.getDeclaredMethods()) {
            String parameters = Arrays.toString(m.getParameterTypes()).replace("[", "").replace("]", "").replace(" ", "");
            if (Modifier.isPrivate(m.getModifiers())) {
                privateNames.add(m.getName());
            } else {
                seen.add(m.getReturnType() + " " + m.getName() + "(" + parameters + ")");
                publicNames.add(m.getName());
                c.due(m.getName() + " is public and of the object", m.getModifiers(), Modifier.PUBLIC);
            }
        }
        for (String wanted : METHODS) {
            c.due(wanted, seen.remove(wanted) ? 1 : 0, 1);
        }
        c.due("others that can be seen: " + seen, seen.size(), 0);
        privateNames.retainAll(publicNames);
        c.due("private ones of a public name: " + privateNames, privateNames.size(), 0);
    }

    private static void inside() {
        c.about("classes inside");
        Class<?>[] all = GreatChunks.class.getDeclaredClasses();
        c.due("not too many", all.length <= 11 ? 1 : 0, 1);
        for (Class<?> one : all) {
            boolean seen = Modifier.isPublic(one.getModifiers()) || Modifier.isProtected(one.getModifiers());
            c.due(one.getName() + " can be seen", seen ? 1 : 0, 0);
            c.due(one.getName() + " is static", Modifier.isStatic(one.getModifiers()) ? 1 : 0, 1);
            c.due(one.getName() + " has few fields", one.getDeclaredFields().length <= 20 ? 1 : 0, 1);
        }
    }
}
