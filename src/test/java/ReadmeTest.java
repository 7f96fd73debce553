import java.io.File;
import java.io.IOException;
import java.lang.reflect.Method;
import java.nio.file.Files;
import java.nio.file.Path;
import java.util.HashSet;
import java.util.Set;
import java.util.regex.Matcher;
import java.util.regex.Pattern;

/** README.md: its example answers as it says there, and it leaves out no call and no file of the tests. */
public final class ReadmeTest {
    private static final Pattern EXAMPLE = Pattern.compile("watch\\.(\\w+)\\(([^)]*)\\);\\s*// (-?\\w+).*");
    private static final Checks CHECKS = new Checks("ReadmeTest");

    public static void main(String[] args) throws IOException, ReflectiveOperationException {
        String readme = Files.readString(Path.of("README.md"));
        everyAnswerOfTheExampleIsAsDue(readme);
        everyCallStandsInTheTable(readme);
        everyFileOfTheTestsIsNamed(readme);
        CHECKS.finish();
    }

    private static void everyAnswerOfTheExampleIsAsDue(String readme) throws ReflectiveOperationException {
        CHECKS.at("README.md's example");
        Set<String> called = new HashSet<>();
        OilWatch watch = new OilWatch();
        for (String line : example(readme).split("\n")) {
            if (!line.startsWith("watch.")) {
                continue;
            }
            Matcher matcher = EXAMPLE.matcher(line);
            boolean hasAnswer = matcher.matches();
            CHECKS.due(line + " (tells its answer)", hasAnswer, true);
            if (hasAnswer) {
                called.add(matcher.group(1));
                String got = answer(watch, matcher.group(1), matcher.group(2));
                CHECKS.due(line + " (" + got + ")", got.equals(matcher.group(3)), true);
            }
        }
        for (Method method : RobustTest.face()) {
            CHECKS.due(method.getName() + " is called", called.contains(method.getName()), true);
        }
    }

    private static String example(String readme) {
        int start = readme.indexOf("```java\n");
        int end = readme.indexOf("```\n", start + 1);
        CHECKS.due("there is an example", start >= 0 && end > start, true);
        return start >= 0 && end > start ? readme.substring(start, end) : "";
    }

    private static String answer(OilWatch watch, String name, String arguments) throws ReflectiveOperationException {
        String[] texts = arguments.split(", ");
        Object[] numbers = new Object[texts.length];
        Class<?>[] types = new Class<?>[texts.length];
        for (int i = 0; i < texts.length; i++) {
            numbers[i] = Integer.valueOf(texts[i]);
            types[i] = int.class;
        }
        return String.valueOf(OilWatch.class.getMethod(name, types).invoke(watch, numbers));
    }

    private static void everyCallStandsInTheTable(String readme) {
        CHECKS.at("README.md's table of calls");
        for (Method method : RobustTest.face()) {
            String moreParameters = "(, \\w+){" + (method.getParameterCount() - 1) + "}";
            Pattern row = Pattern.compile("\n\\| `" + method.getName() + "\\(\\w+" + moreParameters + "\\)` \\|");
            CHECKS.due(method.getName(), row.matcher(readme).find(), true);
        }
    }

    private static void everyFileOfTheTestsIsNamed(String readme) {
        CHECKS.at("README.md's table of tests");
        File[] files = new File("src/test/java").listFiles();
        CHECKS.due("there are files", files != null && files.length > 0, true);
        for (File file : files == null ? new File[0] : files) {
            String name = file.getName().replace(".java", "");
            CHECKS.due(name, readme.contains("`" + name + "`"), true);
        }
    }
}
