import java.io.IOException;
import java.lang.reflect.Field;
import java.lang.reflect.Method;
import java.lang.reflect.Modifier;
import java.nio.file.Files;
import java.nio.file.Path;
import java.util.Arrays;
import java.util.HashSet;
import java.util.Set;
import java.util.TreeSet;
import java.util.regex.Matcher;
import java.util.regex.Pattern;

/** The face of the class is the one that ../shared/DOC.md shows, and nothing but it. */
final class FaceTest {
    public static void main(String[] args) throws IOException {
        Check.same("public methods", publicMethods().toString(), promisedMethods().toString());
        Check.same("public constructors", Arrays.toString(LanternCourt.class.getConstructors()), "[public LanternCourt()]");
        Check.same("constructors", String.valueOf(LanternCourt.class.getDeclaredConstructors().length), "1");
        Check.same("final", String.valueOf(Modifier.isFinal(LanternCourt.class.getModifiers())), "true");
        for (Field field : LanternCourt.class.getDeclaredFields()) {
            Check.same("private field " + field.getName(), String.valueOf(Modifier.isPrivate(field.getModifiers())), "true");
        }
        privateMethods();
        Check.end();
    }

    private static Set<String> publicMethods() {
        Set<String> methods = new TreeSet<>();
        for (Method method : LanternCourt.class.getDeclaredMethods()) {
            if (Modifier.isPublic(method.getModifiers())) {
                StringBuilder text = new StringBuilder(method.getReturnType() + " " + method.getName() + "(");
                for (Class<?> type : method.getParameterTypes()) {
                    text.append(type).append(' ');
                }
                text.append(")");
                for (Class<?> type : method.getExceptionTypes()) {
                    text.append(' ').append(type.getSimpleName());
                }
                methods.add(text.toString());
            }
        }
        return methods;
    }

    private static Set<String> promisedMethods() throws IOException {
        Set<String> methods = new TreeSet<>();
        Pattern line = Pattern.compile("    public (\\w+) (\\w+)\\((.*)\\)(?: throws (.*))?;");
        for (String text : Files.readAllLines(Path.of("../shared/DOC.md"))) {
            Matcher matcher = line.matcher(text);
            if (matcher.matches()) {
                String types = matcher.group(3).replaceAll(" \\w+(, |$)", " ");
                String thrown = matcher.group(4) == null ? "" : " " + matcher.group(4).replace(",", "");
                methods.add(matcher.group(1) + " " + matcher.group(2) + "(" + types + ")" + thrown);
            }
        }
        return methods;
    }

    /** Rule 1: no private method bears the name of a public one; those of the classes inside neither. */
    private static void privateMethods() {
        Set<String> publicNames = new HashSet<>();
        for (Method method : LanternCourt.class.getDeclaredMethods()) {
            if (Modifier.isPublic(method.getModifiers())) {
                publicNames.add(method.getName());
            }
        }
        for (Method method : LanternCourt.class.getDeclaredMethods()) {
            boolean isPublic = Modifier.isPublic(method.getModifiers());
            if (!isPublic && !method.isSynthetic()) {
                Check.same("private method " + method.getName(), String.valueOf(Modifier.isPrivate(method.getModifiers())), "true");
                Check.same("named as a public one: " + method.getName(), String.valueOf(publicNames.contains(method.getName())), "false");
            }
        }
        for (Class<?> inside : LanternCourt.class.getDeclaredClasses()) {
            for (Method method : inside.getDeclaredMethods()) {
                Check.same("named as a public one: " + inside.getName() + "." + method.getName(),
                        String.valueOf(publicNames.contains(method.getName())), "false");
            }
        }
    }
}
