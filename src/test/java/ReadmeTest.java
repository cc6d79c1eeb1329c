import java.io.IOException;
import java.lang.reflect.Method;
import java.lang.reflect.Modifier;
import java.net.URL;
import java.net.URLClassLoader;
import java.nio.file.Files;
import java.nio.file.Path;
import java.util.ArrayList;
import java.util.List;
import java.util.regex.Matcher;
import java.util.regex.Pattern;
import javax.tools.ToolProvider;

/** README.md tells the truth: its example answers what it says, its commands are those calls, and it names every call. */
final class ReadmeTest {
    private static final Pattern EXAMPLE = Pattern.compile("(?s)```java\n(.*?)```");
    private static final Pattern LINE = Pattern.compile("(?:(\\w+) (\\w+) = )?(.*?); +// (.*)");
    private static final Pattern COMMAND = Pattern.compile("(?m)^\\|[^|]*\\| `([^`]*)` \\| `(\\w+)\\(([^)]*)\\)`.*\\|$");

    public static void main(String[] args) throws IOException, ReflectiveOperationException {
        String readme = Files.readString(Path.of("README.md"));
        for (Method method : LanternCourt.class.getDeclaredMethods()) {
            if (Modifier.isPublic(method.getModifiers())) {
                Check.same("README names " + method.getName(), String.valueOf(readme.contains("`" + method.getName() + "`")), "true");
            }
        }
        example(readme);
        commands(readme);
        Check.end();
    }

    /** Makes a program of the example that collects the answers, and compares them with those that stand there. */
    private static void example(String readme) throws IOException, ReflectiveOperationException {
        Matcher example = EXAMPLE.matcher(readme);
        Check.same("README has an example", String.valueOf(example.find()), "true");
        StringBuilder body = new StringBuilder();
        List<String> calls = new ArrayList<>();
        List<String> due = new ArrayList<>();
        for (String text : example.group(1).split("\n")) {
            Matcher line = LINE.matcher(text);
            if (!line.matches()) {
                body.append(text).append('\n');
                continue;
            }
            calls.add(line.group(3));
            due.add(line.group(4));
            if (line.group(1) != null) {
                body.append(line.group(1) + " " + line.group(2) + " = " + line.group(3) + ";\n");
            }
            String answer = line.group(1) == null ? line.group(3) : line.group(2);
            body.append("answers.add(String.valueOf(" + answer + "));\n");
        }
        List<String> answers = answersOf(body.toString());
        for (int i = 0; i < calls.size(); i++) {
            Check.same("README's " + calls.get(i), answers.get(i), due.get(i));
        }
    }

    @SuppressWarnings("unchecked")
    private static List<String> answersOf(String body) throws IOException, ReflectiveOperationException {
        Path directory = Files.createTempDirectory("readme");
        Path source = directory.resolve("Example.java");
        Files.writeString(source, "public final class Example { public static java.util.List<String> answers() {\n"
                + "java.util.List<String> answers = new java.util.ArrayList<>();\n" + body + "return answers; } }\n");
        int failed = ToolProvider.getSystemJavaCompiler().run(null, null, null, "-cp", System.getProperty("java.class.path"),
                "-d", directory.toString(), source.toString());
        Check.same("README's example compiles", String.valueOf(failed), "0");
        try (URLClassLoader loader = new URLClassLoader(new URL[] {directory.toUri().toURL()})) {
            return (List<String>) loader.loadClass("Example").getMethod("answers").invoke(null);
        } finally {
            for (String name : List.of("Example.java", "Example.class", "")) {
                Files.deleteIfExists(directory.resolve(name));
            }
        }
    }

    /** In a court where each of the commands is possible, the command and its call lead to the same state. */
    private static void commands(String readme) throws ReflectiveOperationException {
        Matcher command = COMMAND.matcher(readme);
        int found = 0;
        while (command.find()) {
            found++;
            LanternCourt told = busyCourt();
            LanternCourt called = busyCourt();
            Check.same("README's command " + command.group(1), Check.run(told, command.group(1)), "1");
            call(called, command.group(2), command.group(3));
            Check.sameLines("README's " + command.group(1) + " for " + command.group(2), Snapshot.of(told), Snapshot.of(called));
        }
        Check.same("README's commands", String.valueOf(found), "8");
    }

    private static LanternCourt busyCourt() {
        LanternCourt court = Check.courtWith(3);
        for (int i = 0; i < 3; i++) {
            court.makeStatement(i, (i + 1) % 3, true);
        }
        court.admit(1, true);
        for (int i = 0; i < 13; i++) {
            court.file(1, 12, 1 + i, 9);
            if (i < 8) {
                court.withdraw(i);
            }
        }
        court.passDays(1);
        return court;
    }

    private static void call(LanternCourt court, String name, String arguments) throws ReflectiveOperationException {
        for (Method method : LanternCourt.class.getDeclaredMethods()) {
            if (method.getName().equals(name)) {
                Class<?>[] types = method.getParameterTypes();
                String[] texts = arguments.split(", ");
                Object[] values = new Object[types.length];
                for (int i = 0; i < types.length; i++) {
                    values[i] = types[i] == boolean.class ? (Object) Boolean.valueOf(texts[i]) : (Object) Integer.valueOf(texts[i]);
                }
                method.invoke(court, values);
            }
        }
    }
}
