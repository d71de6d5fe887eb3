import java.io.IOException;
import java.lang.reflect.Method;
import java.net.URL;
import java.net.URLClassLoader;
import java.nio.file.Files;
import java.nio.file.Path;
import java.util.ArrayList;
import java.util.List;
import java.util.TreeSet;
import java.util.regex.Matcher;
import java.util.regex.Pattern;
import javax.tools.ToolProvider;

/**
 * What README.md says of the class: its Java is compiled and run, every answer that stands behind a call there is held against
 * the one that the call gives, and every call of the face is told.
 */
final class UseTest {
    private static final Pattern ANSWERED = Pattern.compile("\\s*(?:\\w+ \\w+ = )?(.*\\(.*\\));\\s*// (-?\\d+|true|false)\\b.*");
    private static final Pattern CALL = Pattern.compile("`(\\w+)\\(([^)]*)\\)`");

    public static void main(String[] args) throws Exception {
        Check check = new Check("UseTest");
        String readme = Files.readString(Path.of("README.md"));
        lookAtCalls(check, readme);
        List<String> lines = new ArrayList<>();
        lines.add("public final class Readme { public static void run(java.util.function.BiConsumer<String, Object[]> due) {");
        int answers = 0;
        List<String> helpers = new ArrayList<>();
        for (String block : readme.split("```java\n")) {
            // what stands ahead of the first block ends in no fence of its own
            if (!readme.contains("```java\n" + block)) {
                continue;
            }
            String code = block.substring(0, block.indexOf("```"));
            if (code.startsWith("static")) {
                helpers.add(code);
                continue;
            }
            for (String line : code.split("\n")) {
                Matcher m = ANSWERED.matcher(line);
                if (m.matches()) {
                    answers++;
                    String call = m.group(1);
                    lines.add("due.accept(\"" + call.replace("\"", "'") + "\", new Object[] {" + call + ", " + m.group(2) + "});");
                } else {
                    lines.add(line);
                }
            }
        }
        lines.add("}");
        lines.addAll(helpers);
        lines.add("}");
        check.due("answers in README.md are more than 20", answers > 20, true);
        run(check, lines);
        check.end();
    }

    private static void run(Check check, List<String> lines) throws Exception {
        Path dir = Files.createTempDirectory("readme");
        Path source = dir.resolve("Readme.java");
        try {
            Files.write(source, lines);
            int failed = ToolProvider.getSystemJavaCompiler().run(null, null, null, "-proc:none", "-cp",
                System.getProperty("java.class.path"), "-d", dir.toString(), source.toString());
            check.due("README.md's Java compiles", failed, 0);
            if (failed == 0) {
                try (URLClassLoader loader = new URLClassLoader(new URL[] {dir.toUri().toURL()})) {
                    Method run = loader.loadClass("Readme").getMethod("run", java.util.function.BiConsumer.class);
                    java.util.function.BiConsumer<String, Object[]> due = (call, both) ->
                        check.due("README.md: " + call + " is told as " + both[1] + ", answered " + both[0], both[0].equals(both[1]), true);
                    run.invoke(null, due);
                }
            }
        } finally {
            remove(dir);
        }
    }

    private static void remove(Path dir) throws IOException {
        for (String name : new String[] {"Readme.java", "Readme.class"}) {
            Files.deleteIfExists(dir.resolve(name));
        }
        Files.delete(dir);
    }

    private static void lookAtCalls(Check check, String readme) {
        TreeSet<String> told = new TreeSet<>();
        Matcher m = CALL.matcher(readme);
        while (m.find()) {
            String given = m.group(2).trim();
            told.add(m.group(1) + " " + (given.isEmpty() ? 0 : given.split(",").length));
        }
        for (Method method : BlushLamps.class.getDeclaredMethods()) {
            if (java.lang.reflect.Modifier.isPublic(method.getModifiers())) {
                String call = method.getName() + " " + method.getParameterCount();
                check.due("README.md tells of " + call, told.contains(call), true);
            }
        }
    }
}
