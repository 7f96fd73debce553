import java.io.IOException;
import java.lang.reflect.Constructor;
import java.lang.reflect.Field;
import java.lang.reflect.Method;
import java.lang.reflect.Modifier;
import java.nio.file.Files;
import java.nio.file.Path;
import java.util.ArrayList;
import java.util.Arrays;
import java.util.List;
import java.util.Set;
import java.util.TreeSet;
import java.util.regex.Matcher;
import java.util.regex.Pattern;

/** The rules of LANGUAGE.md that can be seen by reading the source and the compiled classes. */
public final class LanguageTest {
    private static final Checks CHECKS = new Checks("LanguageTest");
    private static final Path SOURCE = Path.of("src/main/java/OilWatch.java");
    private static final Set<String> FACE = new TreeSet<>(List.of(
        "boolean shore(int,int)", "boolean weather(int,int,int,int)", "int boom(int,int,int)", "boolean lift(int)",
        "int spill(int,int)", "int skimmer(int,int,int,int)", "boolean sail(int,int)", "int empty(int)", "int go(int)",
        "int oil(int)", "int foretold(int,int)", "int worst(int)", "int best(int,int,int)", "int ship(int,int,int)",
        "boolean could(int,int)", "int sample(int,int)", "boolean part(int,int)", "int bill(int)", "int told(int,int)",
        "int count(int)"));

    public static void main(String[] args) throws IOException {
        String text = Files.readString(SOURCE);
        String code = withoutComments(text);
        faceIsTheDocuments();
        List<Class<?>> classes = new ArrayList<>(List.of(OilWatch.class));
        classes.addAll(Arrays.asList(OilWatch.class.getDeclaredClasses()));
        CHECKS.at("rule 11");
        CHECKS.due("classes are at most 12", classes.size() <= 12, true);
        for (Class<?> one : classes) {
            membersKeepTheRules(one);
        }
        wordsKeepTheRules(code);
        methodsKeepTheRules(code);
        CHECKS.finish();
    }

    private static String withoutComments(String text) {
        return text.replaceAll("(?s)/\\*.*?\\*/", "").replaceAll("//[^\n]*", "");
    }

    private static void faceIsTheDocuments() {
        CHECKS.at("rule 1");
        Set<String> open = new TreeSet<>();
        for (Method method : OilWatch.class.getDeclaredMethods()) {
            String types = Arrays.stream(method.getParameterTypes()).map(Class::getName)
                .reduce((a, b) -> a + "," + b).orElse("");
            if (Modifier.isPublic(method.getModifiers())) {
                open.add(method.getReturnType() + " " + method.getName() + "(" + types + ")");
            } else {
                CHECKS.due(method + " is private", Modifier.isPrivate(method.getModifiers()), true);
            }
        }
        CHECKS.due("the public methods " + open, open.equals(FACE), true);
        for (Field field : OilWatch.class.getDeclaredFields()) {
            boolean isNone = field.getName().equals("NONE");
            CHECKS.due(field + " is open", !Modifier.isPrivate(field.getModifiers()), isNone);
        }
        Constructor<?>[] constructors = OilWatch.class.getDeclaredConstructors();
        CHECKS.due("constructors", constructors.length, 1);
        CHECKS.due("the constructor is public", Modifier.isPublic(constructors[0].getModifiers()), true);
        CHECKS.due("the class is final", Modifier.isFinal(OilWatch.class.getModifiers()), true);
        CHECKS.due("the class is public", Modifier.isPublic(OilWatch.class.getModifiers()), true);
    }

    private static void membersKeepTheRules(Class<?> one) {
        CHECKS.at("class " + one.getSimpleName());
        if (one != OilWatch.class) {
            CHECKS.due("it is static", Modifier.isStatic(one.getModifiers()), true);
            CHECKS.due("it is neither public nor protected",
                Modifier.isPublic(one.getModifiers()) || Modifier.isProtected(one.getModifiers()), false);
            CHECKS.due("it has no class inside", one.getDeclaredClasses().length, 0);
        }
        int fields = 0;
        for (Field field : one.getDeclaredFields()) {
            if (Modifier.isStatic(field.getModifiers())) {
                CHECKS.due(field + " is final", Modifier.isFinal(field.getModifiers()), true);
            } else {
                fields++;
            }
        }
        CHECKS.due("fields are at most 20", fields <= 20, true);
        for (Method method : one.getDeclaredMethods()) {
            CHECKS.due(method + " has at most 7 parameters", method.getParameterCount() <= 7, true);
            boolean isOfFace = one == OilWatch.class && Modifier.isPublic(method.getModifiers());
            boolean bearsName = FACE.stream().anyMatch(line -> line.contains(" " + method.getName() + "("));
            CHECKS.due(method + " bears a public name", bearsName, isOfFace);
        }
    }

    private static void wordsKeepTheRules(String code) {
        CHECKS.at("words");
        String[] words = {"throw", "throws", "try", "catch", "finally", "synchronized", "assert", "package", "protected",
            "volatile", "transient", "native", "strictfp", "var", "yield", "Object", "Thread", "Random", "Exception"};
        for (String word : words) {
            CHECKS.due("uses of '" + word + "'", found(code, "\\b" + word + "\\b"), 0);
        }
        CHECKS.due("lambdas and arrows", found(code, "->"), 0);
        CHECKS.due("method references", found(code, "::"), 0);
        CHECKS.due("texts and characters", found(code, "[\"']"), 0);
        CHECKS.due("annotations", found(code, "@"), 0);
        CHECKS.due("imports", found(code, "\\bimport\\b"), 0);
        CHECKS.due("names ending in Exact", found(code, "Exact\\b"), 0);
        CHECKS.due("static blocks", found(code, "\\bstatic\\s*\\{"), 0);
        CHECKS.due("loops without a condition", found(code, "while\\s*\\(\\s*true|;\\s*;"), 0);
        CHECKS.due("signs beyond 127", found(code, "[^\\x00-\\x7f]"), 0);
        Matcher library = Pattern.compile("\\b(Math|Integer|Long|System|Arrays)\\.(\\w+)").matcher(code);
        while (library.find()) {
            CHECKS.due(library.group() + " is of the library", List.of("Math.min", "Math.max", "Math.abs",
                "System.arraycopy").contains(library.group()), true);
        }
    }

    private static int found(String code, String pattern) {
        return (int) Pattern.compile(pattern).matcher(code).results().count();
    }

    /** A method of the file begins where a line with parameters opens a brace at a class's depth. */
    private static void methodsKeepTheRules(String code) {
        int length = 0;
        String head = "";
        for (String line : code.split("\n")) {
            boolean begins = line.matches("( {4}| {8})(\\w[\\w\\[\\] ]*) \\w+\\(.*")
                && !line.matches(" *(return|if|for|while|switch|else)\\b.*") && !line.endsWith(";");
            if (begins) {
                head = line.trim();
                length = 0;
            } else if (!head.isEmpty()) {
                callToItselfIsOfAPrivateStaticMethod(head, line);
            }
            length++;
            if (line.matches("( {4}| {8})\\}") && !head.isEmpty()) {
                CHECKS.at("rule 11");
                CHECKS.due(head + " has at most 60 lines", length <= 60, true);
            }
        }
    }

    private static void callToItselfIsOfAPrivateStaticMethod(String head, String line) {
        String name = head.replaceAll("\\(.*", "").replaceAll(".* ", "");
        if (found(line, "(?<![.\\w])" + name + "\\(") > 0) {
            CHECKS.at("rule 8");
            CHECKS.due(head + " is private static", head.startsWith("private static "), true);
        }
    }
}
