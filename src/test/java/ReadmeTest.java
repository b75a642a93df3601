import java.io.IOException;
import java.lang.reflect.Method;
import java.lang.reflect.Modifier;
import java.net.URL;
import java.net.URLClassLoader;
import java.nio.file.Files;
import java.nio.file.Path;
import java.util.ArrayList;
import java.util.List;
import java.util.Map;
import java.util.Set;
import java.util.TreeMap;
import java.util.TreeSet;
import java.util.regex.Matcher;
import java.util.regex.Pattern;
import java.util.stream.Stream;

/** What README.md says is so: its examples, its tables, the files that it names. Run from the project's folder. */
public final class ReadmeTest {
    private static final Pattern ANSWERED = Pattern.compile("(store\\.\\w+\\(.*\\));\\s+// (-?\\d+): .*");
    private static final Check check = new Check();

    public static void main(String[] args) throws Exception {
        String text = Files.readString(Path.of("README.md"));
        examples(text);
        calls(text);
        answers(text);
        tests(text);
        files(text);
        check.end();
    }

    /** The examples are one program; each line's comment that begins with a number is what its call has to answer. */
    private static void examples(String text) throws Exception {
        StringBuilder program = new StringBuilder("public final class ReadmeExample {\n"
            + "    public static void run(java.util.List<Long> got) {\n");
        List<String> lines = new ArrayList<>();
        List<Long> due = new ArrayList<>();
        Matcher block = Pattern.compile("(?s)```java\n(.*?)```").matcher(text);
        while (block.find()) {
            for (String line : block.group(1).split("\n")) {
                Matcher answered = ANSWERED.matcher(line);
                if (answered.matches()) {
                    lines.add(line);
                    due.add(Long.valueOf(answered.group(2)));
                    line = "got.add((long) " + answered.group(1) + ");";
                }
                program.append(line).append('\n');
            }
        }
        List<Long> got = run(program.append("    }\n}\n").toString());
        check.holds("there are answers in the examples", due.size() > 20);
        check.due("answers of the examples", got.size(), due.size());
        for (int i = 0; i < Math.min(got.size(), due.size()); i++) {
            check.due(lines.get(i), got.get(i), due.get(i));
        }
    }

    private static List<Long> run(String program) throws Exception {
        List<Long> got = new ArrayList<>();
        Path folder = Files.createTempDirectory("readme");
        Path source = folder.resolve("ReadmeExample.java"), compiled = folder.resolve("ReadmeExample.class");
        Files.writeString(source, program);
        int failed = new ProcessBuilder("javac", "-cp", System.getProperty("java.class.path"), "-d", folder.toString(),
            source.toString()).inheritIO().start().waitFor();
        check.due("the examples compile", failed, 0);
        if (failed == 0) {
            try (URLClassLoader loader = new URLClassLoader(new URL[] {folder.toUri().toURL()})) {
                loader.loadClass("ReadmeExample").getMethod("run", List.class).invoke(null, got);
            }
        }
        Files.deleteIfExists(compiled);
        Files.delete(source);
        Files.delete(folder);
        return got;
    }

    private static void calls(String text) {
        Map<String, Integer> told = new TreeMap<>();
        Matcher row = Pattern.compile("(?m)^\\| `(\\w+)\\(([^)]*)\\)` \\|").matcher(text);
        while (row.find()) {
            int parameters = row.group(2).isEmpty() ? 0 : row.group(2).split(", ").length;
            check.holds(row.group(1) + " is told once", told.put(row.group(1), parameters) == null);
        }
        Map<String, Integer> due = new TreeMap<>();
        for (Method m : FarStore.class.getDeclaredMethods()) {
            if (Modifier.isPublic(m.getModifiers())) {
                due.put(m.getName(), m.getParameterCount());
            }
        }
        check.holds("the calls are told: " + told, told.equals(due));
    }

    private static void answers(String text) throws ReflectiveOperationException {
        Matcher row = Pattern.compile("(?m)^\\| `([A-Z]+)` \\| (-\\d) \\|").matcher(text);
        int found = 0;
        while (row.find()) {
            found++;
            check.due(row.group(1), FarStore.class.getField(row.group(1)).getInt(null), Long.parseLong(row.group(2)));
        }
        check.due("answers that are told", found, 4);
    }

    private static void tests(String text) throws IOException {
        Set<String> told = new TreeSet<>();
        Matcher row = Pattern.compile("(?m)^\\| `(\\w+Test)` \\|").matcher(text);
        while (row.find()) {
            told.add(row.group(1) + ".java");
        }
        Set<String> due = new TreeSet<>();
        try (Stream<Path> files = Files.list(Path.of("src/test/java"))) {
            files.map(f -> f.getFileName().toString()).filter(f -> f.endsWith("Test.java")).forEach(due::add);
        }
        check.holds("the tests are told: " + told, told.equals(due));
    }

    private static void files(String text) {
        Matcher path = Pattern.compile("(?<![\\w./])(src|\\.ci)/[\\w/]+(\\.java)?").matcher(text);
        int found = 0;
        while (path.find()) {
            found++;
            check.holds(path.group() + " is there", Files.exists(Path.of(path.group())));
        }
        check.holds("files are named", found > 0);
        check.holds(".ci/run can be run", Files.isExecutable(Path.of(".ci/run")));
    }
}
