import java.io.IOException;
import java.lang.reflect.Constructor;
import java.lang.reflect.Field;
import java.lang.reflect.Method;
import java.lang.reflect.Modifier;
import java.nio.file.Files;
import java.nio.file.Path;
import java.util.ArrayList;
import java.util.HashSet;
import java.util.List;
import java.util.Map;
import java.util.Set;
import java.util.TreeMap;
import java.util.TreeSet;
import java.util.regex.Matcher;
import java.util.regex.Pattern;

/** Those rules of LANGUAGE.md that can be seen in the text of the program or its classes. Run from the project's folder. */
public final class SourceRulesTest {
    private static final String[] RULED_OUT = {
        "throw", "throws", "try", "catch", "finally", "synchronized", "assert", "package", "protected", "hashCode",
        "toString", "\\w+Exact", "random", "System", "Thread", "double", "float", "Object", "volatile", "native",
        "var", "transient", "strictfp",
    };
    private static final Set<String> LIBRARY = Set.of("add", "get", "set", "remove", "size", "isEmpty", "clear", "clone",
        "fill", "copyOf", "copyOfRange", "min", "max", "abs");
    private static final Set<String> LIBRARY_TYPES = Set.of("ArrayList", "Arrays");
    private static final int MOST_LINES = 60, MOST_PARAMETERS = 7, MOST_FIELDS = 20, MOST_CLASSES = 12, DEEPEST = 8;
    private static final Pattern HEAD = Pattern.compile("^( {4}| {8})(public|private) (?:static )?(?:[\\w\\[\\]<>]+ )?(\\w+)\\([^;=]*\\{$");
    private static final Check check = new Check();

    public static void main(String[] args) throws IOException {
        String text = Files.readString(Path.of("src/main/java/FarStore.java"));
        String code = text.replaceAll("(?s)/\\*.*?\\*/", "").replaceAll("//[^\n]*", "");
        words(code);
        for (int i = 0; i < text.length(); i++) {
            if (text.charAt(i) > 126) {
                check.due("character at " + i, text.charAt(i), 0);
            }
        }
        Map<String, String> methods = methods(code.split("\n"));
        calls(code, methods);
        List<Class<?>> classes = new ArrayList<>(List.of(FarStore.class.getDeclaredClasses()));
        classes.add(FarStore.class);
        check.holds("rule 11: at most twelve classes", classes.size() <= MOST_CLASSES);
        for (Class<?> c : classes) {
            members(c);
        }
        types(code, classes);
        nothingThatCouldThrow(code);
        loops(code);
        objects(methods);
        check.end();
    }

    private static void words(String code) {
        for (String word : RULED_OUT) {
            check.holds("no " + word, !Pattern.compile("\\b" + word + "\\b").matcher(code).find());
        }
        check.holds("rule 2: no lambda", !code.contains("->"));
        check.holds("rule 2: no method reference", !code.contains("::"));
        check.holds("rule 5: no static block", !Pattern.compile("\\bstatic\\s*\\{").matcher(code).find());
        Matcher imports = Pattern.compile("import ([^;]+);").matcher(code);
        while (imports.find()) {
            check.holds("import " + imports.group(1), imports.group(1).matches("java\\.util\\.(ArrayList|List|Arrays)"));
        }
    }

    /** Rules 2, 3 and 10: own classes, the lists' class, constants; no local or anonymous class, no texts. */
    private static void types(String code, List<Class<?>> classes) {
        Set<String> own = new HashSet<>();
        for (Class<?> c : classes) {
            own.add(c.getSimpleName());
        }
        Matcher word = Pattern.compile("\\b[A-Z]\\w*\\b").matcher(code);
        while (word.find()) {
            boolean constant = word.group().matches("[A-Z]+(_[A-Z]+)*");
            check.holds("rule 3: " + word.group(),
                constant || own.contains(word.group()) || LIBRARY_TYPES.contains(word.group()));
        }
        check.due("rule 2: no class but those inside", howOften("\\bclass\\b", code), classes.size());
        check.due("rule 2: each of them static", howOften("private static final class ", code), classes.size() - 1);
        check.due("rule 2: no anonymous class", howOften("\\bnew [\\w<>]+\\([^;]*\\)\\s*\\{", code), 0);
        check.due("rule 3: no array of arrays", howOften("\\]\\s*\\[", code), 0);
        check.due("rule 10: no text", howOften("[\"']", code), 0);
    }

    /** Rules 6 and 7: what is not there at all needs no test ahead of it. */
    private static void nothingThatCouldThrow(String code) {
        check.due("rule 7: no divisor", howOften("[/%]", code), 0);
        check.due("rule 6: no cast", howOften("\\((int|long|short|byte|char|[A-Z]\\w*)(\\[\\])?\\)\\s*[\\w(]", code), 0);
        Matcher made = Pattern.compile("\\bnew \\w+\\[([^\\]]*)\\]").matcher(code);
        while (made.find()) {
            check.holds("rule 7: an array's length is of constants: " + made.group(1),
                made.group(1).matches("[A-Z_]+( \\* [A-Z_]+)*"));
        }
    }

    /** Rule 9: each loop is a counter against a bound. */
    private static void loops(String code) {
        check.due("rule 9: no while, no do", howOften("\\b(while|do)\\b", code), 0);
        Matcher loop = Pattern.compile("\\bfor \\((.*)\\) \\{").matcher(code);
        int found = 0;
        while (loop.find()) {
            found++;
            check.holds("rule 9: " + loop.group(1), loop.group(1).matches(
                "int (\\w+) = (?:0; \\1 < [\\w.()]+; \\1\\+\\+|[\\w.()]+ - 1; \\1 >= 0; \\1--)"));
        }
        check.due("rule 9: all loops are found", howOften("\\bfor\\b", code), found);
    }

    /** Rule 12: what a call makes is one thing, one transaction or the messages that it sends. */
    private static void objects(Map<String, String> methods) {
        Set<String> makers = new TreeSet<>();
        for (Map.Entry<String, String> m : methods.entrySet()) {
            if (howOften("\\bnew\\b|\\bclone\\(", m.getValue()) > 0) {
                makers.add(m.getKey());
            }
        }
        check.holds("rule 12: objects are made by " + makers,
            makers.equals(Set.of("FarStore", "Transaction", "begin", "post", "thing")));
    }

    private static int howOften(String pattern, String code) {
        int many = 0;
        Matcher found = Pattern.compile(pattern).matcher(code);
        while (found.find()) {
            many++;
        }
        return many;
    }

    /** Each method's and constructor's text, by its name; a name stands for one method alone. */
    private static Map<String, String> methods(String[] lines) {
        Map<String, String> found = new TreeMap<>();
        for (int i = 0; i < lines.length; i++) {
            Matcher head = HEAD.matcher(lines[i]);
            if (!head.find()) {
                continue;
            }
            StringBuilder body = new StringBuilder();
            int end = i + 1;
            while (end < lines.length && !lines[end].equals(head.group(1) + "}")) {
                body.append(lines[end++]).append('\n');
            }
            check.holds("rule 11: " + head.group(3) + " is short", end - i + 1 <= MOST_LINES);
            check.holds("one method is named " + head.group(3), found.put(head.group(3), body.toString()) == null);
        }
        check.holds("the methods are found", found.size() > 40);
        return found;
    }

    private static void calls(String code, Map<String, String> methods) {
        Matcher dotted = Pattern.compile("\\.(\\w+)\\(").matcher(code);
        while (dotted.find()) {
            String name = dotted.group(1);
            check.holds("rule 4: " + name, methods.containsKey(name) || LIBRARY.contains(name));
        }
        for (String name : methods.keySet()) {
            int deep = depth(name, methods, new HashSet<>());
            check.holds("rule 11: " + name + " goes " + deep + " deep", deep <= DEEPEST);
        }
    }

    /** How many of the program's methods stand open at once; more than is allowed if a method comes back to itself. */
    private static int depth(String name, Map<String, String> methods, Set<String> open) {
        if (!open.add(name)) {
            return DEEPEST + 1;
        }
        int deepest = 0;
        for (String other : methods.keySet()) {
            // A list's add() is no call of the public add().
            String before = LIBRARY.contains(other) ? "(?<![.\\w])" : "\\b";
            if (Pattern.compile(before + other + "\\(").matcher(methods.get(name)).find()) {
                deepest = Math.max(deepest, depth(other, methods, open));
            }
        }
        open.remove(name);
        return deepest + 1;
    }

    private static void members(Class<?> c) {
        int fields = 0;
        for (Field f : c.getDeclaredFields()) {
            if (Modifier.isStatic(f.getModifiers())) {
                check.holds("rule 5: " + f, Modifier.isFinal(f.getModifiers()));
                check.holds("rule 5: " + f, Set.of("int", "long", "boolean", "char").contains(f.getType().getName()));
            } else {
                fields++;
            }
            check.holds("rule 3: " + f, isAllowed(f.getType()));
            check.holds("rule 1: " + f, Modifier.isPrivate(f.getModifiers()) || c == FarStore.class);
        }
        check.holds("rule 11: fields of " + c.getName(), fields <= MOST_FIELDS);
        for (Method m : c.getDeclaredMethods()) {
            check.holds("rule 11: " + m, m.getParameterCount() <= MOST_PARAMETERS);
            check.holds("rule 1: " + m, Modifier.isPrivate(m.getModifiers()) || c == FarStore.class);
        }
        for (Constructor<?> k : c.getDeclaredConstructors()) {
            check.holds("rule 11: " + k, k.getParameterCount() <= MOST_PARAMETERS);
        }
    }

    private static boolean isAllowed(Class<?> type) {
        Class<?> of = type.isArray() ? type.getComponentType() : type;
        if (of.isArray()) {
            return of.getComponentType().isPrimitive();
        }
        return of.isPrimitive() || of.getName().startsWith("FarStore") || of == ArrayList.class;
    }
}
