import java.io.IOException;
import java.lang.reflect.Constructor;
import java.lang.reflect.Field;
import java.lang.reflect.Method;
import java.lang.reflect.Modifier;
import java.nio.file.Files;
import java.nio.file.Path;
import java.util.Arrays;
import java.util.Set;
import java.util.TreeSet;
import java.util.regex.Matcher;
import java.util.regex.Pattern;

/** The public face is the document's, and nothing else can be seen from outside. */
public final class FaceTest {
    private static final String[] METHODS = {
        "int sites(int,int)", "int thing(int,boolean)", "int begin(int)", "long read(int,int)",
        "long counted(int,int,int)", "int write(int,int,long)", "int add(int,int,int,int)", "int commit(int)",
        "int abort(int)", "int deliver(int)", "int all(int)", "int message(int,int)", "int told(int,int)",
        "int start(int,int)", "int had(int,int)", "long latest(int,int)", "long sum(int,int,int)",
        "int locked(int,int)", "int sees(int,int)", "int calm()", "int count(int)",
    };
    private static final Check check = new Check();

    public static void main(String[] args) throws IOException {
        check.holds("public final class", Modifier.isPublic(FarStore.class.getModifiers())
            && Modifier.isFinal(FarStore.class.getModifiers()));
        check.holds("without a package", FarStore.class.getPackageName().isEmpty());
        check.holds("a class of its own", FarStore.class.getSuperclass() == Object.class
            && FarStore.class.getInterfaces().length == 0);
        constants();
        constructors();
        methods();
        classesInside();
        documentsFace();
        check.end();
    }

    /** The list above is a copy: where the document is at hand, it is compared with the document itself. */
    private static void documentsFace() throws IOException {
        Path document = Path.of("../shared/DOC.md");
        if (!Files.isReadable(document)) {
            System.out.println("there is no " + document + ": the face is compared with the copy in this test alone");
            return;
        }
        String text = Files.readString(document);
        int from = text.indexOf("public final class FarStore {");
        check.holds("the document has a face", from >= 0 && text.indexOf("\n}", from) > from);
        Set<String> due = new TreeSet<>();
        for (String line : text.substring(from, text.indexOf("\n}", from)).split("\n")) {
            Matcher method = Pattern.compile("    public (\\w+ \\w+\\(.*\\));").matcher(line);
            if (method.matches()) {
                due.add(method.group(1).replaceAll(" \\w+(?=[,)])", "").replace(", ", ","));
            }
        }
        check.holds("the document's methods: " + due, due.equals(new TreeSet<>(Arrays.asList(METHODS))));
    }

    private static void constants() {
        check.due("BAD", FarStore.BAD, -1);
        check.due("STATE", FarStore.STATE, -2);
        check.due("FULL", FarStore.FULL, -3);
        check.due("NONE", FarStore.NONE, -4);
        Set<String> names = new TreeSet<>();
        for (Field f : FarStore.class.getDeclaredFields()) {
            if (!Modifier.isPrivate(f.getModifiers())) {
                names.add(f.getName());
                check.holds(f.getName() + " is public static final int", f.getType() == int.class
                    && f.getModifiers() == (Modifier.PUBLIC | Modifier.STATIC | Modifier.FINAL));
            }
            check.holds(f.getName() + " is final if static",
                !Modifier.isStatic(f.getModifiers()) || Modifier.isFinal(f.getModifiers()));
        }
        check.holds("fields to be seen: " + names, names.equals(Set.of("BAD", "STATE", "FULL", "NONE")));
        check.holds("-1 to -4 are " + nameOf(-1) + nameOf(-2) + nameOf(-3) + nameOf(-4),
            (nameOf(-1) + nameOf(-2) + nameOf(-3) + nameOf(-4)).equals("BADSTATEFULLNONE"));
    }

    /** Compiles only if each is a constant to the compiler too. */
    private static String nameOf(int answer) {
        switch (answer) {
            case FarStore.BAD: return "BAD";
            case FarStore.STATE: return "STATE";
            case FarStore.FULL: return "FULL";
            case FarStore.NONE: return "NONE";
            default: return "";
        }
    }

    private static void constructors() {
        Constructor<?>[] all = FarStore.class.getDeclaredConstructors();
        check.due("constructors", all.length, 1);
        check.due("its parameters", all[0].getParameterCount(), 0);
        check.holds("it is public", Modifier.isPublic(all[0].getModifiers()));
        check.due("it names exceptions", all[0].getExceptionTypes().length, 0);
    }

    private static void methods() {
        Set<String> due = new TreeSet<>(Arrays.asList(METHODS));
        Set<String> dueNames = new TreeSet<>();
        for (String m : METHODS) {
            dueNames.add(m.substring(m.indexOf(' ') + 1, m.indexOf('(')));
        }
        Set<String> got = new TreeSet<>();
        for (Method m : FarStore.class.getDeclaredMethods()) {
            if (Modifier.isPrivate(m.getModifiers())) {
                check.holds(m.getName() + " is not a public one's name", !dueNames.contains(m.getName()));
            } else {
                got.add(signature(m));
                check.due(m.getName() + " names exceptions", m.getExceptionTypes().length, 0);
                check.holds(m.getName() + " is public and of the object",
                    Modifier.isPublic(m.getModifiers()) && !Modifier.isStatic(m.getModifiers()));
            }
        }
        check.holds("methods to be seen: " + got, got.equals(due));
    }

    private static String signature(Method m) {
        StringBuilder s = new StringBuilder();
        s.append(m.getReturnType()).append(' ').append(m.getName()).append('(');
        for (Class<?> p : m.getParameterTypes()) {
            s.append(s.charAt(s.length() - 1) == '(' ? "" : ",").append(p);
        }
        return s.append(')').toString();
    }

    private static void classesInside() {
        for (Class<?> c : FarStore.class.getDeclaredClasses()) {
            int m = c.getModifiers();
            check.holds(c.getName() + " is static and not public",
                Modifier.isStatic(m) && !Modifier.isPublic(m) && !Modifier.isProtected(m));
        }
        check.holds("at most twelve classes", FarStore.class.getDeclaredClasses().length < 12);
    }
}
