import java.io.IOException;
import java.lang.reflect.Method;
import java.lang.reflect.Modifier;
import java.nio.file.Files;
import java.nio.file.Path;
import java.util.ArrayList;
import java.util.Comparator;
import java.util.HashMap;
import java.util.List;
import java.util.Map;
import java.util.regex.Matcher;
import java.util.regex.Pattern;
import java.util.stream.Stream;
import javax.tools.ToolProvider;

/** README.md tells each call with its exceptions as the document has them, and its example answers what it says. */
public final class ReadmeTest {
    private static final Path README = Path.of("README.md");
    private static final Path DOCUMENT = Path.of("../shared/DOC.md");
    private static final Pattern ROW = Pattern.compile("\\| `([^`]*)` \\| (.*?) \\| ?(.*?) ?\\|");
    private static final Pattern PROMISE = Pattern.compile("`([^`]*\\))(?: throws [^`]*)?`: .*");
    private static final Pattern THROWN = Pattern.compile("Throws (`\\w+` if .*)");
    private static final Pattern ANSWERED = Pattern.compile("(?:int (\\w+) = )?(.*); // (\\S+)");

    /** What is thrown, by the call, as README.md tells it. */
    private static Map<String, String> rowsOf(List<String> page) {
        Map<String, String> found = new HashMap<>();
        for (String line : page) {
            Matcher row = ROW.matcher(line);
            if (row.matches()) {
                found.put(row.group(1), row.group(3));
            }
        }
        return found;
    }

    /** The same as the promises of the document tell it. */
    private static Map<String, String> promisesOf(List<String> document) {
        Map<String, String> found = new HashMap<>();
        String call = "";
        for (String line : document) {
            Matcher promise = PROMISE.matcher(line);
            Matcher thrown = THROWN.matcher(line);
            if (promise.matches()) {
                call = promise.group(1);
                found.put(call, "");
            } else if (thrown.matches()) {
                found.merge(call, thrown.group(1), (one, two) -> one.isEmpty() ? two : one + "; " + two);
            }
        }
        return found;
    }

    private static void calls(List<String> page, List<String> document) {
        Map<String, String> rows = rowsOf(page);
        Map<String, String> promises = promisesOf(document);
        Due.is("promises of the document", promises.size(), 37);
        Due.is("calls of the page", rows.keySet(), promises.keySet());
        for (Map.Entry<String, String> promise : promises.entrySet()) {
            Due.is("what " + promise.getKey() + " throws", rows.getOrDefault(promise.getKey(), "?"), promise.getValue());
        }
    }

    private static String thrownBy(Method method) {
        StringBuilder told = new StringBuilder();
        for (Class<?> one : method.getExceptionTypes()) {
            told.append(one.getSimpleName()).append(' ');
        }
        return told.toString();
    }

    /** The class names the same exceptions, in the same order. */
    private static void face(List<String> page) {
        Map<String, String> named = new HashMap<>();
        for (Map.Entry<String, String> row : rowsOf(page).entrySet()) {
            String name = row.getKey().substring(row.getKey().indexOf(' ') + 1, row.getKey().indexOf('('));
            StringBuilder told = new StringBuilder();
            Matcher one = Pattern.compile("`(\\w+Exception)`").matcher(row.getValue());
            while (one.find()) {
                told.append(one.group(1)).append(' ');
            }
            named.put(name, told.toString());
        }
        for (Method method : TelescopeCourt.class.getDeclaredMethods()) {
            if (Modifier.isPublic(method.getModifiers())) {
                Due.is("exceptions of " + method.getName(), thrownBy(method), named.getOrDefault(method.getName(), "?"));
            }
        }
    }

    private static List<String> exampleOf(List<String> page) {
        int from = page.indexOf("```java") + 1;
        int end = from;
        while (end < page.size() && !page.get(end).equals("```")) {
            end++;
        }
        return page.subList(from, end);
    }

    /** The lines of the example as a class that prints each answer that is not the one behind it. */
    private static String programOf(List<String> example) {
        StringBuilder made = new StringBuilder("public final class Example {\n"
                + "    static int wrong;\n"
                + "    static void is(String line, Object got, Object want) {\n"
                + "        if (!want.equals(got)) { wrong++; System.out.println(line + \" answered \" + got); }\n"
                + "    }\n"
                + "    public static int ask() {\n");
        for (String line : example) {
            Matcher answered = ANSWERED.matcher(line);
            if (!answered.matches()) {
                made.append(line).append('\n');
            } else if (answered.group(1) != null) {
                made.append(line).append("\nis(\"").append(answered.group(1)).append("\", ");
                made.append(answered.group(1)).append(", ").append(answered.group(3)).append(");\n");
            } else {
                made.append("is(\"").append(answered.group(2)).append("\", ");
                made.append(answered.group(2)).append(", ").append(answered.group(3)).append(");\n");
            }
        }
        return made.append("return wrong; } }\n").toString();
    }

    private static void example(List<String> page) throws IOException, ReflectiveOperationException {
        List<String> lines = exampleOf(page);
        Due.is("the example has calls", lines.size() > 10, true);
        Path room = Files.createTempDirectory("readme");
        try {
            Path source = Files.writeString(room.resolve("Example.java"), programOf(lines));
            int code = ToolProvider.getSystemJavaCompiler().run(null, null, null, "-cp",
                    System.getProperty("java.class.path"), "-d", room.toString(), source.toString());
            Due.is("the example is compiled", code, 0);
            if (code == 0) {
                byte[] made = Files.readAllBytes(room.resolve("Example.class"));
                Class<?> type = new ClassLoader(ReadmeTest.class.getClassLoader()) {
                    Class<?> define() {
                        return defineClass("Example", made, 0, made.length);
                    }
                }.define();
                Due.is("wrong answers in the example", type.getMethod("ask").invoke(null), 0);
            }
        } finally {
            remove(room);
        }
    }

    private static void remove(Path room) throws IOException {
        List<Path> all = new ArrayList<>();
        try (Stream<Path> found = Files.walk(room)) {
            found.sorted(Comparator.reverseOrder()).forEach(all::add);
        }
        for (Path one : all) {
            Files.delete(one);
        }
    }

    public static void main(String[] args) throws IOException, ReflectiveOperationException {
        List<String> page = Files.readAllLines(README);
        calls(page, Files.readAllLines(DOCUMENT));
        face(page);
        example(page);
        Due.end();
    }
}
