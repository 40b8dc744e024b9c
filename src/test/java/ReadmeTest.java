import java.io.IOException;
import java.lang.reflect.Method;
import java.lang.reflect.Modifier;
import java.net.URL;
import java.net.URLClassLoader;
import java.nio.file.Files;
import java.nio.file.Path;
import java.util.ArrayList;
import java.util.LinkedHashMap;
import java.util.List;
import java.util.Map;
import java.util.TreeSet;
import java.util.function.Consumer;
import java.util.regex.Matcher;
import java.util.regex.Pattern;
import javax.tools.ToolProvider;

/** What README.md shows of a use answers as it says there, and its list of calls is the class's. */
public final class ReadmeTest {
    private static final Pattern ANSWERED = Pattern.compile("(?:int (\\w+) = )?(waves\\.\\w+\\(.*?\\)); *// (-?\\d+)(?:: .*)?");
    private static final Pattern REFUSED = Pattern.compile("waves\\.\\w+\\(.*?\\); *// (throws \\w+): .*");
    private static final Pattern CALLED = Pattern.compile("waves\\.(\\w+)\\(");
    private static final Pattern LISTED = Pattern.compile("\\| `(\\w+ \\w+\\(.*?\\))` \\| .+ \\| (.+) \\|");
    private static final Pattern THROWN = Pattern.compile("`(\\w+Exception)`: ");

    private static final Check check = new Check();

    public static void main(String[] args) throws IOException, ReflectiveOperationException {
        List<String> lines = Files.readAllLines(Path.of("README.md"));
        usesAnswerAsTheySay(lines);
        everyCallAndEveryRefusalIsShown(lines);
        theListOfCallsIsTheFace(lines);
        theTestsAreListed(lines);
        check.same("the command that runs the tests", lines.contains(".ci/run") ? 1 : 0, 1);
        check.end();
    }

    /** The blocks are compiled as they stand, but for each answer that they show being written down. */
    private static void usesAnswerAsTheySay(List<String> lines) throws IOException, ReflectiveOperationException {
        Map<String, String> due = new LinkedHashMap<>();
        StringBuilder source = new StringBuilder("public final class ReadmeUse");
        source.append(" implements java.util.function.Consumer<java.util.Map<String, String>> {\n");
        source.append("public void accept(java.util.Map<String, String> told) {\n");
        boolean inside = false;
        for (int i = 0; i < lines.size(); i++) {
            String line = lines.get(i);
            if (line.equals("```java") || inside && line.equals("```")) {
                source.append(inside ? "}\n" : "{\n");
                inside = !inside;
            } else if (inside) {
                source.append(written("line " + (i + 1) + " of README.md", line, due)).append('\n');
            }
        }
        Map<String, String> told = new LinkedHashMap<>();
        run(source.append("}\n}\n").toString(), told);
        for (String where : due.keySet()) {
            check.same(where, String.valueOf(told.get(where)), due.get(where));
        }
        check.same("some answers are shown", due.size() > 30 ? 1 : 0, 1);
    }

    private static String written(String where, String line, Map<String, String> due) {
        String call = line.replaceAll(" *//.*", "");
        Matcher answered = ANSWERED.matcher(line);
        if (answered.matches()) {
            due.put(where, answered.group(3));
            String name = answered.group(1);
            String put = "told.put(\"" + where + "\", String.valueOf(" + (name == null ? answered.group(2) : name) + "));";
            return name == null ? put : call + " " + put;
        }
        Matcher refused = REFUSED.matcher(line);
        if (refused.matches()) {
            due.put(where, refused.group(1));
            return "try { " + call + " } catch (RuntimeException e) { told.put(\"" + where
                    + "\", \"throws \" + e.getClass().getSimpleName()); }";
        }
        return call;
    }

    private static void run(String source, Map<String, String> told) throws IOException, ReflectiveOperationException {
        Path folder = Files.createTempDirectory("readme");
        Path file = folder.resolve("ReadmeUse.java");
        Files.writeString(file, source);
        int failed = ToolProvider.getSystemJavaCompiler().run(null, null, null, "-d", folder.toString(),
                "-cp", System.getProperty("java.class.path"), file.toString());
        check.same("README.md's uses compile", failed, 0);
        if (failed == 0) {
            try (URLClassLoader loader = new URLClassLoader(new URL[] {folder.toUri().toURL()})) {
                accept(loader.loadClass("ReadmeUse").getConstructor().newInstance(), told);
            }
            Files.delete(folder.resolve("ReadmeUse.class"));
        }
        Files.delete(file);
        Files.delete(folder);
    }

    @SuppressWarnings("unchecked")
    private static void accept(Object use, Map<String, String> told) {
        check.throwing("README.md's uses", null, () -> ((Consumer<Map<String, String>>) use).accept(told));
    }

    private static void everyCallAndEveryRefusalIsShown(List<String> lines) {
        TreeSet<String> calls = new TreeSet<>();
        TreeSet<String> refusals = new TreeSet<>();
        for (String line : lines) {
            Matcher called = CALLED.matcher(line);
            Matcher refused = REFUSED.matcher(line);
            if (refused.matches()) {
                refusals.add(refused.group(1).substring("throws ".length()));
            } else if (called.find()) {
                calls.add(called.group(1));
            }
        }
        TreeSet<String> all = new TreeSet<>();
        face().forEach(method -> all.add(method.getName()));
        check.same("calls that are shown", calls.toString(), all.toString());
        TreeSet<String> exceptions = new TreeSet<>();
        List.of(Check.UNKNOWN, Check.RANGE, Check.STATE, Check.ROOM).forEach(one -> exceptions.add(one.getSimpleName()));
        check.same("refusals that are shown", refusals.toString(), exceptions.toString());
    }

    private static void theListOfCallsIsTheFace(List<String> lines) {
        TreeSet<String> listed = new TreeSet<>();
        for (String line : lines) {
            Matcher row = LISTED.matcher(line);
            if (row.matches()) {
                StringBuilder text = new StringBuilder(row.group(1).replaceAll("int \\w+(?=[,)])", "int"));
                Matcher thrown = THROWN.matcher(row.group(2));
                while (thrown.find()) {
                    text.append(' ').append(thrown.group(1));
                }
                check.same("listed once: " + text, listed.add(text.toString()) ? 1 : 0, 1);
            }
        }
        TreeSet<String> due = new TreeSet<>();
        for (Method method : face()) {
            List<String> types = new ArrayList<>();
            for (Class<?> type : method.getParameterTypes()) {
                types.add(type.getName());
            }
            StringBuilder text = new StringBuilder();
            text.append(method.getReturnType()).append(' ').append(method.getName());
            text.append('(').append(String.join(", ", types)).append(')');
            for (Class<?> thrown : method.getExceptionTypes()) {
                text.append(' ').append(thrown.getSimpleName());
            }
            due.add(text.toString());
        }
        check.same("the list of calls", listed.toString(), due.toString());
    }

    private static void theTestsAreListed(List<String> lines) throws IOException {
        TreeSet<String> listed = new TreeSet<>();
        for (String line : lines) {
            if (line.matches("\\| \\w+Test \\| .*")) {
                listed.add(line.split(" ")[1] + ".java");
            }
        }
        TreeSet<String> due = new TreeSet<>();
        try (var files = Files.list(Path.of("src/test/java"))) {
            files.map(file -> file.getFileName().toString()).filter(name -> name.endsWith("Test.java")).forEach(due::add);
        }
        check.same("the list of tests", listed.toString(), due.toString());
    }

    private static List<Method> face() {
        List<Method> open = new ArrayList<>();
        for (Method method : SecondWaves.class.getDeclaredMethods()) {
            if (Modifier.isPublic(method.getModifiers())) {
                open.add(method);
            }
        }
        return open;
    }
}
