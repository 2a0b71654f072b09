import java.lang.reflect.Field;
import java.lang.reflect.Method;
import java.nio.file.Files;
import java.nio.file.Path;
import java.util.ArrayList;
import java.util.HashMap;
import java.util.List;
import java.util.Map;
import java.util.Set;
import java.util.TreeMap;
import java.util.TreeSet;
import java.util.regex.Matcher;
import java.util.regex.Pattern;
import java.util.stream.Stream;

/**
 * Makes the calls of README.md's java blocks and compares what they answer with what the page says; looks at its tables too.
 * The lines are read here, not copied, so that page and class can't part without a failure.
 */
public final class ReadmeTest {
    private static final Pattern BLOCK = Pattern.compile("(?ms)^```java\n(.*?)^```$");
    private static final Pattern NEW = Pattern.compile("FormSeries (\\w+) = new FormSeries\\(\\);");
    private static final Pattern CALL =
        Pattern.compile("(?:int (\\w+) = )?(\\w+)\\.(\\w+)\\(([^()]*)\\); +// (-?\\d+|[A-Z]+)(?:: .+)?");
    private static final Pattern TOLD_CALL = Pattern.compile("`(\\w+)\\(([^()`]*)\\)`");
    private static final Pattern TOLD_CONSTANT = Pattern.compile("(?m)^\\| `([A-Z]+)` \\| (-?\\d+) \\|");

    private static final Map<String, Method> METHODS = new TreeMap<>();
    private static final Map<String, Integer> CONSTANTS = new TreeMap<>();
    private static int wrong = 0;

    private static void check(boolean holds, String what) {
        if (!holds) {
            wrong++;
            System.out.println("README.md: " + what);
        }
    }

    public static void main(String[] args) throws Exception {
        String page = Files.readString(Path.of("README.md")).replace("\r\n", "\n");
        for (Method method : FormSeries.class.getMethods()) {
            if (method.getDeclaringClass() == FormSeries.class) METHODS.put(method.getName(), method);
        }
        for (Field field : FormSeries.class.getFields()) CONSTANTS.put(field.getName(), field.getInt(null));
        int calls = blocks(page);
        tables(page);
        tests(page);
        System.out.println(wrong == 0 ? calls + " calls of README.md answer as it says" : wrong + " things are not as README.md says");
        if (wrong != 0) System.exit(1);
    }

    // ---- the calls

    private static int blocks(String page) throws Exception {
        Set<String> shown = new TreeSet<>();
        int calls = 0;
        Matcher block = BLOCK.matcher(page);
        while (block.find()) calls += run(block.group(1).split("\n"), shown);
        for (String name : METHODS.keySet()) check(shown.contains(name), "no block shows " + name);
        for (String name : CONSTANTS.keySet()) check(shown.contains(name), "no block has the answer " + name);
        return calls;
    }

    /** shown: the methods that are called and the constants that are answered. */
    private static int run(String[] lines, Set<String> shown) throws Exception {
        Map<String, Object> named = new HashMap<>();
        int calls = 0;
        for (String line : lines) {
            Matcher made = NEW.matcher(line);
            Matcher call = CALL.matcher(line);
            if (made.matches()) {
                check(named.put(made.group(1), new FormSeries()) == null, "two things bear one name: " + line);
            } else if (call.matches()) {
                answer(call, named, shown);
                calls++;
            } else {
                check(line.isBlank(), "no call with its answer: " + line);
            }
        }
        return calls;
    }

    private static void answer(Matcher call, Map<String, Object> named, Set<String> shown) throws Exception {
        String line = call.group();
        Method method = METHODS.get(call.group(3));
        List<Object> arguments = new ArrayList<>();
        for (String text : call.group(4).split(", ")) {
            if (!text.isEmpty()) arguments.add(value(text, named));
        }
        Object bench = named.get(call.group(2));
        boolean callable = method != null && bench instanceof FormSeries && method.getParameterCount() == arguments.size();
        for (int i = 0; callable && i < arguments.size(); i++) {
            Class<?> due = method.getParameterTypes()[i] == boolean.class ? Boolean.class : Integer.class;
            callable = due.isInstance(arguments.get(i));
        }
        check(callable, "can't be called: " + line);
        if (!callable) return;
        Integer due = CONSTANTS.containsKey(call.group(5)) ? CONSTANTS.get(call.group(5)) : number(call.group(5));
        Object got = method.invoke(bench, arguments.toArray());
        check(got.equals(due), "the answer is " + got + ": " + line);
        check(due == null || due >= 0 || CONSTANTS.containsKey(call.group(5)), "the answer is told by its constant: " + line);
        if (call.group(1) != null) check(named.put(call.group(1), got) == null, "two things bear one name: " + line);
        shown.add(method.getName());
        shown.add(call.group(5));
    }

    private static Integer number(String text) {
        return text.matches("-?\\d+") ? Integer.valueOf(text) : null;
    }

    /** null: the text is no value. */
    private static Object value(String text, Map<String, Object> named) {
        if (text.equals("true") || text.equals("false")) return text.equals("true");
        if (text.startsWith("FormSeries.")) return CONSTANTS.get(text.substring("FormSeries.".length()));
        return number(text) != null ? number(text) : named.get(text);
    }

    // ---- what stands around them

    private static void tables(String page) {
        Set<String> told = new TreeSet<>();
        Matcher call = TOLD_CALL.matcher(page);
        while (call.find()) {
            Method method = METHODS.get(call.group(1));
            int many = call.group(2).isEmpty() ? 0 : call.group(2).split(", ").length;
            check(method != null && method.getParameterCount() == many, "there is no call " + call.group());
            told.add(call.group(1));
        }
        for (String name : METHODS.keySet()) check(told.contains(name), "it says nothing of " + name);
        Map<String, Integer> constants = new TreeMap<>();
        Matcher constant = TOLD_CONSTANT.matcher(page);
        while (constant.find()) constants.put(constant.group(1), Integer.valueOf(constant.group(2)));
        check(constants.equals(CONSTANTS), "the constants are " + CONSTANTS + ", not " + constants);
    }

    private static void tests(String page) throws Exception {
        try (Stream<Path> files = Files.list(Path.of("src/test/java"))) {
            for (Path file : files.toList()) {
                String name = file.getFileName().toString().replace(".java", "");
                check(page.contains("`" + name + "`"), "it says nothing of the test " + name);
            }
        }
    }
}
