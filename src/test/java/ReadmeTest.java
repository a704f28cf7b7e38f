import java.io.File;
import java.lang.reflect.Field;
import java.lang.reflect.Method;
import java.lang.reflect.Modifier;
import java.nio.file.Files;
import java.nio.file.Path;
import java.util.Set;
import java.util.TreeSet;
import java.util.regex.Matcher;
import java.util.regex.Pattern;

/** README.md tells what is so: its example, its calls, constants and tests; run in the project's folder. */
public final class ReadmeTest {
    private static final Pattern REGISTRY = Pattern.compile("String registry = \"([^\"]*)\";");
    private static final Pattern CALL = Pattern.compile("x\\.(\\w+)\\(([-\\d, ]*)\\); +// (-?\\d+)\\b.*");
    private static final Pattern SETTING_UP =
            Pattern.compile("ShadeNames x = .*|x\\.text\\(0, registry.*|for \\(.*|    x\\.put\\(0, i, registry.*|\\}|");

    private static final Due due = new Due("README.md");

    public static void main(String[] args) throws Exception {
        String page = Files.readString(Path.of("README.md"));
        example(between(page, "```java\n", "```"));
        calls(between(page, "### The calls", "### What is refused"));
        constants(between(page, "### What is refused", "## Tests"));
        tests(page.substring(page.indexOf("## Tests")));
        due.end();
    }

    private static String between(String page, String from, String to) {
        int start = page.indexOf(from) + from.length();
        int end = page.indexOf(to, start);
        due.holds(from.strip() + " is there", start >= from.length() && end >= 0);
        return page.substring(start, end);
    }

    private static void example(String code) throws Exception {
        due.part("the example");
        ShadeNames x = new ShadeNames();
        int called = 0;
        for (String line : code.split("\n")) {
            Matcher registry = REGISTRY.matcher(line);
            Matcher call = CALL.matcher(line);
            if (registry.matches()) {
                Runs.write(x, 0, registry.group(1));
            } else if (call.matches()) {
                due.is(line, answer(x, call.group(1), call.group(2)), Long.parseLong(call.group(3)));
                called++;
            } else {
                due.holds("is known: " + line, SETTING_UP.matcher(line).matches());
            }
        }
        due.holds("calls are found", called > 20);
    }

    private static long answer(ShadeNames x, String name, String given) throws Exception {
        String[] words = given.isEmpty() ? new String[0] : given.split(", ");
        Object[] v = new Object[words.length];
        Class<?>[] types = new Class<?>[words.length];
        for (int i = 0; i < v.length; i++) {
            v[i] = Integer.parseInt(words[i]);
            types[i] = int.class;
        }
        return ((Number) ShadeNames.class.getMethod(name, types).invoke(x, v)).longValue();
    }

    private static void calls(String part) {
        due.part("the calls");
        Set<String> want = new TreeSet<>();
        for (Method method : ShadeNames.class.getDeclaredMethods()) {
            if (Modifier.isPublic(method.getModifiers())) {
                want.add(method.getName());
            }
        }
        like(told(part, "`(\\w+)`"), want);
    }

    private static void constants(String part) throws Exception {
        due.part("the constants");
        Set<String> want = new TreeSet<>();
        for (Field field : ShadeNames.class.getFields()) {
            want.add(field.getName());
            int value = field.getInt(null);
            due.holds(field.getName() + " is told as " + value,
                    Pattern.compile("`" + field.getName() + "`[ |(]+" + value + "\\b").matcher(part).find());
        }
        like(told(part, "`([A-Z]+)`"), want);
    }

    private static void tests(String part) {
        due.part("the tests");
        Set<String> want = new TreeSet<>();
        File[] files = new File("src/test/java").listFiles();
        for (File file : files == null ? new File[0] : files) {
            want.add(file.getName().replace(".java", ""));
        }
        due.holds("tests are found", want.contains("ReadmeTest"));
        like(told(part, "`([A-Z][a-z]\\w*)`"), want);
    }

    private static Set<String> told(String part, String form) {
        Set<String> told = new TreeSet<>();
        Matcher found = Pattern.compile(form).matcher(part);
        while (found.find()) {
            told.add(found.group(1));
        }
        return told;
    }

    private static void like(Set<String> told, Set<String> want) {
        due.holds("they are " + want + ", not " + told, told.equals(want));
    }
}
