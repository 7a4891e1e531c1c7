import java.lang.reflect.Method;
import java.lang.reflect.Modifier;
import java.nio.file.Files;
import java.nio.file.Path;
import java.util.ArrayList;
import java.util.Arrays;
import java.util.List;
import java.util.Set;
import java.util.TreeSet;
import java.util.regex.Matcher;
import java.util.regex.Pattern;
import java.util.stream.Collectors;
import java.util.stream.Stream;

/** README.md is true of the class as it stands: its examples are called, its tables are looked at. */
public final class ReadmeTest {
    private static final Check check = new Check("ReadmeTest");
    private static final Pattern BLOCK = Pattern.compile("(?ms)^```java\n(.*?)^```");
    private static final Pattern CALL = Pattern.compile("x\\.(\\w+)\\((.*?)\\); +// (-?\\d+|[A-Z]+): .+");
    private static final Pattern CONSTANT = Pattern.compile("`([A-Z]+)` \\((-\\d+)\\)");
    private static final Pattern TEST = Pattern.compile("(?m)^\\| `(\\w+Test)` \\|");
    private static final Pattern TOLD_BYTES = Pattern.compile("x\\.write\\((\\d), 0x([0-9a-f]+)L\\);.*\"(\\w+)\"");

    private static DaysLent x;
    private static int calls = 0;
    private static final Set<String> called = new TreeSet<>();

    public static void main(String[] args) throws Exception {
        String page = Files.readString(Path.of(System.getProperty("dayslent.readme", "README.md")));
        examples(page);
        bytesAreThoseTold(page);
        eachCallIsShown();
        constants(page);
        eachTestIsTold(page);
        check.end();
    }

    private static void examples(String page) throws Exception {
        Matcher blocks = BLOCK.matcher(page);
        while (blocks.find()) {
            for (String line : blocks.group(1).split("\n")) {
                if (line.equals("DaysLent x = new DaysLent();")) {
                    x = new DaysLent();
                } else {
                    example(line);
                }
            }
        }
        check.isTrue("an object is used for 512 calls at most", calls <= 512);
    }

    private static void example(String line) throws Exception {
        Matcher call = CALL.matcher(line);
        if (x == null || !call.matches()) {
            check.isTrue("a call with its answer: " + line, false);
            return;
        }
        calls++;
        called.add(call.group(1));
        check.due(line, number(call.group(3)), answer(call.group(1), call.group(2)));
    }

    private static long number(String told) throws Exception {
        return Character.isLetter(told.charAt(0)) ? DaysLent.class.getField(told).getInt(null) : Long.parseLong(told);
    }

    private static long answer(String name, String told) throws Exception {
        String[] words = told.isEmpty() ? new String[0] : told.split(", ");
        for (Method method : DaysLent.class.getMethods()) {
            if (method.getName().equals(name) && method.getParameterCount() == words.length) {
                Object[] values = new Object[words.length];
                for (int i = 0; i < words.length; i++) {
                    values[i] = value(method.getParameterTypes()[i], words[i]);
                }
                return ((Number) method.invoke(x, values)).longValue();
            }
        }
        throw new IllegalStateException("there is no call " + name + " of " + words.length);
    }

    private static Object value(Class<?> type, String word) {
        if (type == boolean.class) {
            return Boolean.parseBoolean(word);
        }
        return type == long.class ? (Object) Long.decode(word.replace("L", "")) : (Object) Integer.decode(word);
    }

    private static void bytesAreThoseTold(String page) {
        Matcher writes = TOLD_BYTES.matcher(page);
        int found = 0;
        while (writes.find()) {
            found++;
            check.due(writes.group(), writes.group(3).length(), Integer.parseInt(writes.group(1)));
            check.due(writes.group(), Books.packed(writes.group(3)), Long.parseLong(writes.group(2), 16));
        }
        check.isTrue("bytes were found", found > 0);
    }

    private static void eachCallIsShown() {
        Set<String> open = Arrays.stream(DaysLent.class.getDeclaredMethods())
                .filter(method -> Modifier.isPublic(method.getModifiers())).map(Method::getName)
                .collect(Collectors.toCollection(TreeSet::new));
        check.isTrue("each call is shown: " + called, called.equals(open));
    }

    private static void constants(String page) throws Exception {
        Matcher told = CONSTANT.matcher(page);
        List<String> names = new ArrayList<>();
        while (told.find()) {
            names.add(told.group(1));
            check.due(told.group(1), Long.parseLong(told.group(2)), number(told.group(1)));
        }
        check.isTrue("the constants: " + names, names.equals(List.of("UNKNOWN", "BAD", "LATE", "FULL", "NONE")));
    }

    private static void eachTestIsTold(String page) throws Exception {
        Set<String> told = new TreeSet<>();
        Matcher rows = TEST.matcher(page);
        while (rows.find()) {
            told.add(rows.group(1) + ".java");
        }
        try (Stream<Path> files = Files.list(Path.of(System.getProperty("dayslent.tests", "src/test/java")))) {
            Set<String> stand = files.map(file -> file.getFileName().toString())
                    .filter(name -> name.endsWith("Test.java")).collect(Collectors.toCollection(TreeSet::new));
            check.isTrue("the table tells " + told + ", there are " + stand, told.equals(stand));
        }
    }
}
