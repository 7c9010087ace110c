import java.io.IOException;
import java.lang.reflect.Method;
import java.lang.reflect.Modifier;
import java.net.URL;
import java.net.URLClassLoader;
import java.nio.file.DirectoryStream;
import java.nio.file.Files;
import java.nio.file.Path;
import java.util.ArrayList;
import java.util.List;
import java.util.Map;
import java.util.TreeSet;
import java.util.regex.Matcher;
import java.util.regex.Pattern;
import javax.tools.ToolProvider;

/**
 * README.md: its Java parts are compiled as one program, and each line with a number behind "//"
 * must answer it when it is run; the calls, reasons and tests that it names must be all there are.
 */
public final class ReadmeTest {
    private static final Check CHECK = new Check("ReadmeTest");
    private static final Pattern PART = Pattern.compile("(?s)```java\n(.*?)```");
    private static final Pattern TOLD = Pattern.compile(
            "\\s*(?:(?:int|double|float) (\\w+) = )?(.*);\\s*// (-?[0-9]+(?:\\.[0-9]+)?): .*");

    public static void main(String[] args) throws Exception {
        String text = Files.readString(Path.of("README.md"));
        examples(text);
        calls(text);
        reasons(text);
        tests(text);
        CHECK.end();
    }

    private static List<String> matches(String pattern, String text) {
        List<String> found = new ArrayList<>();
        Matcher matcher = Pattern.compile(pattern).matcher(text);
        while (matcher.find()) {
            found.add(matcher.group(1));
        }
        return found;
    }

    // ---- the Java parts

    private static void examples(String text) throws Exception {
        List<String> lines = new ArrayList<>();
        Matcher part = PART.matcher(text);
        while (part.find()) {
            lines.addAll(List.of(part.group(1).split("\n")));
        }
        List<String> told = new ArrayList<>();
        StringBuilder body = new StringBuilder();
        for (String line : lines) {
            Matcher matcher = TOLD.matcher(line);
            if (matcher.matches()) {
                String got = matcher.group(1) == null ? matcher.group(2) : matcher.group(1);
                body.append(matcher.group(1) == null ? "" : line + "\n");
                body.append("got.put(").append(told.size()).append(", (double) ").append(got)
                        .append(");\n");
                told.add(line);
            } else {
                body.append(line).append('\n');
            }
        }
        CHECK.isTrue("README.md tells answers", !told.isEmpty());
        CHECK.same("lines of README.md with a number behind //",
                matches("(//)", String.join("\n", lines)).size(), told.size());
        compare(told, run(body.toString()));
    }

    private static void compare(List<String> told, Map<?, ?> got) {
        for (int k = 0; k < told.size(); k++) {
            Matcher matcher = TOLD.matcher(told.get(k));
            boolean isSame = matcher.matches()
                    && Double.valueOf(matcher.group(3)).equals(got.get(k));
            CHECK.isTrue("README.md: " + told.get(k).trim() + " answered " + got.get(k), isSame);
        }
    }

    /** Runs the examples as a class of their own. */
    private static Map<?, ?> run(String body) throws Exception {
        Path folder = Files.createTempDirectory("readme");
        Path source = folder.resolve("ReadmeExample.java");
        Files.writeString(source, "public final class ReadmeExample {\n"
                + "public static java.util.Map<Integer, Double> run() {\n"
                + "java.util.Map<Integer, Double> got = new java.util.HashMap<>();\n"
                + body + "return got;\n}\n}\n");
        int code = ToolProvider.getSystemJavaCompiler().run(null, null, null, "-cp",
                System.getProperty("java.class.path"), "-d", folder.toString(), source.toString());
        CHECK.same("compiling the examples of README.md", 0, code);
        try (URLClassLoader loader = new URLClassLoader(new URL[] {folder.toUri().toURL()})) {
            return (Map<?, ?>) loader.loadClass("ReadmeExample").getMethod("run")
                    .invoke(null);
        } finally {
            delete(folder);
        }
    }

    private static void delete(Path folder) throws IOException {
        try (DirectoryStream<Path> files = Files.newDirectoryStream(folder)) {
            for (Path file : files) {
                Files.delete(file);
            }
        }
        Files.delete(folder);
    }

    // ---- what is named

    private static void same(String what, List<String> due, List<String> got) {
        CHECK.isTrue("README.md tells the " + what + " " + got + ", due are " + due,
                new TreeSet<>(due).equals(new TreeSet<>(got)) && due.size() == got.size());
    }

    /** Each call of the face has its place in the table of answers. */
    private static void calls(String text) {
        List<String> due = new ArrayList<>();
        for (Method method : PilotRoster.class.getDeclaredMethods()) {
            if (Modifier.isPublic(method.getModifiers())) {
                due.add(method.getName());
            }
        }
        List<String> got = new ArrayList<>();
        int begin = Math.max(0, text.indexOf("| Call |"));
        String table = text.substring(begin, Math.max(begin, text.indexOf("\n\n", begin)));
        for (String row : matches("(?m)^\\| (`[^|]*)\\|", table)) {
            got.addAll(matches("`(\\w+)`", row));
        }
        same("calls", due, got);
    }

    private static void reasons(String text) {
        List<String> due = new ArrayList<>();
        for (int reason = 1; reason <= 15; reason++) {
            due.add(String.valueOf(reason));
        }
        due.add("20");
        same("reasons", due, matches("(?m)^\\| ([0-9]+) \\|", text));
    }

    private static void tests(String text) throws IOException {
        List<String> due = new ArrayList<>();
        try (DirectoryStream<Path> files =
                Files.newDirectoryStream(Path.of("src/test/java"), "*Test.java")) {
            for (Path file : files) {
                due.add(file.getFileName().toString().replace(".java", ""));
            }
        }
        List<String> got = new ArrayList<>(new TreeSet<>(matches("`(\\w+Test)`", text)));
        same("tests", due, got);
    }
}
