import java.lang.reflect.Constructor;
import java.lang.reflect.Field;
import java.lang.reflect.Method;
import java.lang.reflect.Modifier;
import java.util.Arrays;
import java.util.Set;
import java.util.TreeSet;

/** The public face is the document's, and nothing else can be seen from outside. */
public final class FaceTest {
    private static final String[] METHODS = {
        "int sites(int,int)", "int thing(int,boolean)", "int begin(int)", "long read(int,int)",
        "long counted(int,int,int)", "int write(int,int,long)", "int add(int,int,int,int)", "int commit(int)",
        "int abort(int)", "int deliver(int)", "int all(int)", "int message(int,int)", "int told(int,int)",
        "int start(int,int)", "int had(int,int)", "long latest(int,int)", "long sum(int,int,int)",
        "int locked(int,int)", "int sees(int,int)", "int calm()", "int count(int)",
    };
    private static final Check check = new Check();

    public static void main(String[] args) {
        check.holds("public final class", Modifier.isPublic(FarStore.class.getModifiers())
            && Modifier.isFinal(FarStore.class.getModifiers()));
        constants();
        constructors();
        methods();
        classesInside();
        check.end();
    }

    private static void constants() {
        check.due("BAD", FarStore.BAD, -1);
        check.due("STATE", FarStore.STATE, -2);
        check.due("FULL", FarStore.FULL, -3);
        check.due("NONE", FarStore.NONE, -4);
        Set<String> names = new TreeSet<>();
        for (Field f : FarStore.class.getDeclaredFields()) {
            if (!Modifier.isPrivate(f.getModifiers())) {
                names.add(f.getName());
            }
            check.holds(f.getName() + " is final if static",
                !Modifier.isStatic(f.getModifiers()) || Modifier.isFinal(f.getModifiers()));
        }
        check.holds("fields to be seen: " + names, names.equals(Set.of("BAD", "STATE", "FULL", "NONE")));
    }

    private static void constructors() {
        Constructor<?>[] all = FarStore.class.getDeclaredConstructors();
        check.due("constructors", all.length, 1);
        check.due("its parameters", all[0].getParameterCount(), 0);
        check.holds("it is public", Modifier.isPublic(all[0].getModifiers()));
    }

    private static void methods() {
        Set<String> due = new TreeSet<>(Arrays.asList(METHODS));
        Set<String> dueNames = new TreeSet<>();
        for (String m : METHODS) {
            dueNames.add(m.substring(m.indexOf(' ') + 1, m.indexOf('(')));
        }
        Set<String> got = new TreeSet<>();
        for (Method m : FarStore.class.getDeclaredMethods()) {
            if (Modifier.isPrivate(m.getModifiers())) {
                check.holds(m.getName() + " is not a public one's name", !dueNames.contains(m.getName()));
            } else {
                got.add(signature(m));
                check.holds(m.getName() + " is public and of the object",
                    Modifier.isPublic(m.getModifiers()) && !Modifier.isStatic(m.getModifiers()));
            }
        }
        check.holds("methods to be seen: " + got, got.equals(due));
    }

    private static String signature(Method m) {
        StringBuilder s = new StringBuilder();
        s.append(m.getReturnType()).append(' ').append(m.getName()).append('(');
        for (Class<?> p : m.getParameterTypes()) {
            s.append(s.charAt(s.length() - 1) == '(' ? "" : ",").append(p);
        }
        return s.append(')').toString();
    }

    private static void classesInside() {
        for (Class<?> c : FarStore.class.getDeclaredClasses()) {
            int m = c.getModifiers();
            check.holds(c.getName() + " is static and not public",
                Modifier.isStatic(m) && !Modifier.isPublic(m) && !Modifier.isProtected(m));
        }
        check.holds("at most twelve classes", FarStore.class.getDeclaredClasses().length < 12);
    }
}
