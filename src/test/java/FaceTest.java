import java.lang.reflect.Constructor;
import java.lang.reflect.Field;
import java.lang.reflect.Method;
import java.lang.reflect.Modifier;
import java.nio.file.Files;
import java.nio.file.Path;
import java.util.ArrayList;
import java.util.Arrays;
import java.util.HashSet;
import java.util.List;
import java.util.Set;
import java.util.TreeSet;
import java.util.regex.Matcher;
import java.util.regex.Pattern;
import java.util.stream.Collectors;

/** The document's face, and the rules of LANGUAGE.md that can be seen from outside or by words in the source. */
public final class FaceTest {
    private static final Check check = new Check("FaceTest");

    private static final List<String> METHODS = List.of(
            "int write(int, long)", "int wipe()", "int fault()", "int book()", "int about(int)", "int person(int, int)",
            "int debt(int, int)", "int ask(int, int)", "int lend(int, int, int, int)", "int week()",
            "int heirs(int, int)", "int jubilee()", "int undo()", "int fewest()", "int falls(int)", "int ring(int)",
            "int room(int)", "int wish(int, int)", "int wishBy(int, int, int)", "long run(int, int, boolean)",
            "int enough(int, int, int)", "int day(int, int, boolean)", "int forget()", "int cheats()", "int keep(int)",
            "int again(int)");

    public static void main(String[] args) throws Exception {
        constants();
        methods();
        membersAreHidden();
        sizes();
        source();
        methodLengths();
        check.end();
    }

    private static void constants() {
        check.due("UNKNOWN", -1, DaysLent.UNKNOWN);
        check.due("BAD", -2, DaysLent.BAD);
        check.due("LATE", -3, DaysLent.LATE);
        check.due("FULL", -4, DaysLent.FULL);
        check.due("NONE", -9, DaysLent.NONE);
    }

    private static String told(Method method) {
        String types = Arrays.stream(method.getParameterTypes()).map(Class::getName).collect(Collectors.joining(", "));
        return method.getReturnType().getName() + " " + method.getName() + "(" + types + ")";
    }

    private static void methods() {
        Set<String> open = new TreeSet<>();
        Set<String> names = new HashSet<>();
        for (Method method : DaysLent.class.getDeclaredMethods()) {
            if (Modifier.isPublic(method.getModifiers())) {
                open.add(told(method));
                names.add(method.getName());
                check.isTrue(method + " is no static one", !Modifier.isStatic(method.getModifiers()));
            }
        }
        check.isTrue("the methods are those of the document: " + open, open.equals(new TreeSet<>(METHODS)));
        for (Class<?> one : DaysLent.class.getDeclaredClasses()) {
            for (Method method : one.getDeclaredMethods()) {
                check.isTrue(method + " has a name of its own", !names.contains(method.getName()));
            }
        }
        for (Method method : DaysLent.class.getDeclaredMethods()) {
            boolean hidden = Modifier.isPrivate(method.getModifiers());
            check.isTrue(method + " has a name of its own", !hidden || !names.contains(method.getName()));
        }
    }

    private static void membersAreHidden() {
        check.isTrue("public and final", DaysLent.class.getModifiers() == (Modifier.PUBLIC | Modifier.FINAL));
        Set<String> told = Set.of("UNKNOWN", "BAD", "LATE", "FULL", "NONE");
        for (Field field : DaysLent.class.getDeclaredFields()) {
            boolean open = !Modifier.isPrivate(field.getModifiers());
            check.isTrue(field + " is hidden or told", open == told.contains(field.getName()));
        }
        for (Method method : DaysLent.class.getDeclaredMethods()) {
            int kind = method.getModifiers();
            check.isTrue(method + " is public or private", Modifier.isPublic(kind) || Modifier.isPrivate(kind));
        }
        Constructor<?>[] constructors = DaysLent.class.getDeclaredConstructors();
        check.due("constructors", 1, constructors.length);
        check.due("its arguments", 0, constructors[0].getParameterCount());
        check.isTrue("it is public", Modifier.isPublic(constructors[0].getModifiers()));
        check.isTrue("at most some twelve classes", DaysLent.class.getDeclaredClasses().length <= 11);
        for (Class<?> one : DaysLent.class.getDeclaredClasses()) {
            check.isTrue(one + " is static", Modifier.isStatic(one.getModifiers()));
        }
    }

    /** Rules 5 and 11: static fields are final, few fields in a class, few parameters of a method. */
    private static void sizes() {
        List<Class<?>> all = new ArrayList<>(List.of(DaysLent.class.getDeclaredClasses()));
        all.add(DaysLent.class);
        for (Class<?> one : all) {
            int fields = 0;
            for (Field field : one.getDeclaredFields()) {
                int kind = field.getModifiers();
                check.isTrue(field + " is final, if static", !Modifier.isStatic(kind) || Modifier.isFinal(kind));
                fields += Modifier.isStatic(kind) ? 0 : 1;
            }
            check.isTrue(one + " has at most some twenty fields", fields <= 20);
            for (Method method : one.getDeclaredMethods()) {
                check.isTrue(method + " has at most seven parameters", method.getParameterCount() <= 7);
            }
        }
    }

    private static String withoutComments() throws Exception {
        String path = System.getProperty("dayslent.source", "src/main/java/DaysLent.java");
        String text = Files.readString(Path.of(path));
        return text.replaceAll("(?s)/\\*.*?\\*/", " ").replaceAll("//[^\n]*", " ");
    }

    /** Rule 11: no method of more than some sixty lines. */
    private static void methodLengths() throws Exception {
        Matcher methods = Pattern.compile("(?ms)^( +)[^\n;=]*\\) \\{\n.*?^\\1\\}").matcher(withoutComments());
        int found = 0;
        while (methods.find()) {
            found++;
            long lines = methods.group().lines().count();
            check.isTrue(methods.group().lines().findFirst().orElse("").trim() + " is short: " + lines, lines <= 60);
        }
        check.isTrue("methods were found", found >= METHODS.size());
    }

    private static void source() throws Exception {
        String code = withoutComments();
        for (String word : List.of("throw", "throws", "try", "catch", "synchronized", "assert", "import", "package",
                "while", "var", "Object", "\\w*Exact")) {
            check.isTrue("no " + word, !Pattern.compile("\\b" + word + "\\b").matcher(code).find());
        }
        Set<String> allowed = Set.of("Integer.bitCount", "Math.min", "Math.max", "System.arraycopy");
        Matcher calls = Pattern.compile("\\b(?:Integer|Long|Math|System|Arrays|String|Byte|Character)\\.\\w+").matcher(code);
        while (calls.find()) {
            check.isTrue(calls.group() + " is in the library's list", allowed.contains(calls.group()));
        }
        check.isTrue("no lambda", !code.contains("->"));
        check.isTrue("no method reference", !code.contains("::"));
    }
}
