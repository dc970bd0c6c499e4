import java.lang.reflect.Constructor;
import java.lang.reflect.Field;
import java.lang.reflect.Method;
import java.lang.reflect.Modifier;
import java.util.Set;
import java.util.TreeSet;

/** The public face is that of the document, and what LANGUAGE.md says of members holds. */
public final class FaceTest {
    private static final String[] FACE = {"feed int long", "place", "swinger", "fault", "told int", "cell int int", "who int int", "set int int", "now int",
        "sine int", "holds int int int", "lands int int int", "best int int", "wide int int", "odds int int int", "strong int int", "heavy", "may",
        "months int", "rope int int", "turn int int", "film int int", "age int", "harmed int", "enough", "seed int", "afternoon int", "ends int",
        "keep int", "goBack int"};

    public static void main(String[] args) throws Exception {
        Class<?> c = RopeSwing.class;
        Check.holds("public and final", Modifier.isPublic(c.getModifiers()) && Modifier.isFinal(c.getModifiers()));
        Check.holds("no superclass, no interface", c.getSuperclass() == Object.class && c.getInterfaces().length == 0);
        methods(c);
        Constructor<?>[] constructors = c.getDeclaredConstructors();
        Check.due("constructors", constructors.length, 1);
        Check.holds("public, without arguments", Modifier.isPublic(constructors[0].getModifiers()) && constructors[0].getParameterCount() == 0);
        fields(c);
        classesInside(c);
        Check.end("FaceTest");
    }

    private static void methods(Class<?> c) {
        Set<String> due = new TreeSet<>(Set.of(FACE));
        Set<String> names = new TreeSet<>();
        for (String f : FACE) {
            names.add(f.split(" ")[0]);
        }
        Set<String> got = new TreeSet<>();
        for (Method m : c.getDeclaredMethods()) {
            StringBuilder b = new StringBuilder(m.getName());
            for (Class<?> p : m.getParameterTypes()) {
                b.append(' ').append(p.getSimpleName());
            }
            if (Modifier.isPrivate(m.getModifiers())) {
                Check.holds("private " + m.getName() + " has a name of its own", !names.contains(m.getName()));
            } else {
                Check.holds(m.getName() + " is public, no static, answers an int",
                    Modifier.isPublic(m.getModifiers()) && !Modifier.isStatic(m.getModifiers()) && m.getReturnType() == int.class);
                got.add(b.toString());
            }
        }
        Check.holds("the methods of the face: " + got, got.equals(due));
    }

    private static void fields(Class<?> c) throws Exception {
        String[] names = {"NONE", "UNKNOWN", "OUTSIDE", "NOT", "FULL"};
        int[] values = {-1, -1000000001, -1000000002, -1000000003, -1000000004};
        for (int i = 0; i < names.length; i++) {
            Field f = c.getField(names[i]);
            Check.holds(names[i] + " is a constant", Modifier.isStatic(f.getModifiers()) && Modifier.isFinal(f.getModifiers()) && f.getType() == int.class);
            Check.due(names[i], f.getInt(null), values[i]);
        }
        int open = 0;
        int own = 0;
        for (Field f : c.getDeclaredFields()) {
            open += Modifier.isPrivate(f.getModifiers()) ? 0 : 1;
            own += Modifier.isStatic(f.getModifiers()) ? 0 : 1;
            Check.holds(f.getName() + ": static is final", !Modifier.isStatic(f.getModifiers()) || Modifier.isFinal(f.getModifiers()));
        }
        Check.due("fields that are not private", open, names.length);
        Check.holds("some twenty fields: " + own, own <= 20);
    }

    private static void classesInside(Class<?> c) {
        Class<?>[] all = c.getDeclaredClasses();
        Check.holds("some twelve classes: " + (all.length + 1), all.length + 1 <= 12);
        for (Class<?> k : all) {
            int m = k.getModifiers();
            Check.holds(k.getName() + " is static", Modifier.isStatic(m));
            Check.holds(k.getName() + " is private or package-visible", !Modifier.isPublic(m) && !Modifier.isProtected(m));
            int own = 0;
            for (Field f : k.getDeclaredFields()) {
                own += Modifier.isStatic(f.getModifiers()) ? 0 : 1;
                Check.holds(f.getName() + ": static is final", !Modifier.isStatic(f.getModifiers()) || Modifier.isFinal(f.getModifiers()));
            }
            Check.holds(k.getName() + " has some twenty fields: " + own, own <= 20);
        }
    }
}
