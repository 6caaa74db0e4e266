import java.io.IOException;
import java.lang.reflect.InvocationTargetException;
import java.lang.reflect.Method;
import java.lang.reflect.Modifier;
import java.nio.file.DirectoryStream;
import java.nio.file.Files;
import java.nio.file.Path;
import java.util.regex.Matcher;
import java.util.regex.Pattern;

/** What README.md tells about the use of the class. Run where the project lies. */
public final class ReadmeTest {
    private static final Pattern CALL = Pattern.compile("(?m)^school\\.(\\w+)\\((.*)\\);\\s*// ([^:\\s]+)");
    private static final Pattern ANY_CALL = Pattern.compile("(?m)^school\\.");

    public static void main(String[] args) throws IOException {
        String readme = Files.readString(Path.of("README.md"));
        answers(readme);
        for (Method method : Queryschool.class.getDeclaredMethods()) {
            if (Modifier.isPublic(method.getModifiers())) {
                isNamed(readme, method.getName());
            }
        }
        try (DirectoryStream<Path> tests = Files.newDirectoryStream(Path.of("src/test/java"), "*Test.java")) {
            for (Path test : tests) {
                isNamed(readme, test.getFileName().toString().replace(".java", ""));
            }
        }
        Check.done("ReadmeTest");
    }

    private static void answers(String readme) {
        Queryschool school = new Queryschool();
        int called = 0;
        Matcher call = CALL.matcher(readme);
        while (call.find()) {
            String name = call.group(1);
            String[] told = call.group(2).isEmpty() ? new String[0] : call.group(2).split(", ");
            Check.due("README: " + name + "(" + call.group(2) + ")", call.group(3), () -> answer(school, name, told));
            called++;
        }
        int due = (int) ANY_CALL.matcher(readme).results().count();
        int got = called;
        Check.due("README: a call whose answer is told", true, () -> due > 0);
        Check.due("README: calls whose answers are told", due, () -> got);
    }

    private static void isNamed(String readme, String name) {
        Check.due("README names " + name, true, () -> readme.contains("`" + name + "`"));
    }

    private static Object answer(Queryschool school, String name, String[] told) {
        for (Method method : Queryschool.class.getDeclaredMethods()) {
            if (method.getName().equals(name) && method.getParameterCount() == told.length) {
                return invoke(school, method, told);
            }
        }
        return "no such call";
    }

    private static Object invoke(Queryschool school, Method method, String[] told) {
        Object[] arguments = new Object[told.length];
        for (int i = 0; i < told.length; i++) {
            arguments[i] = value(told[i]);
        }
        try {
            return method.invoke(school, arguments);
        } catch (IllegalAccessException e) {
            return "cannot be called";
        } catch (InvocationTargetException e) {
            return "throws " + e.getCause().getClass().getSimpleName();
        }
    }

    private static Object value(String told) {
        if (told.startsWith("'")) {
            return told.charAt(1);
        }
        if (told.equals("true") || told.equals("false")) {
            return told.equals("true");
        }
        return Integer.valueOf(told);
    }
}
