import java.nio.charset.StandardCharsets;
import java.nio.file.Files;
import java.nio.file.Path;
import java.util.ArrayList;
import java.util.List;
import java.util.Map;
import java.util.Set;
import java.util.TreeMap;
import java.util.TreeSet;
import java.util.regex.Matcher;
import java.util.regex.Pattern;

/** What can be read off the source of the rules in LANGUAGE.md; run in the project's folder. */
public final class LanguageTest {
    private static final Due due = new Due("language");
    private static final String[] RULED_OUT = {"throw", "throws", "try", "catch", "finally", "synchronized", "assert",
        "import", "package", "double", "float", "volatile", "native", "transient", "Object", "System.out", "Random",
        "Thread", "hashCode", "toString", "yield", "var", "while (true", "for (;;", "->", "::", "Exact("};
    /** Of all that rule 4 lists, what the class uses. */
    private static final Set<String> LIBRARY = Set.of("String", "System", "Integer", "Math");
    private static final Set<String> LIBRARY_CALLS = Set.of("System.arraycopy", "Integer.bitCount", "Math.abs",
        "Math.max", "Math.min", "LETTERS.length", "LETTERS.charAt");
    private static final Pattern CLASS_INSIDE = Pattern.compile("\\b(?:class|record|enum|interface) (\\w+)");
    private static final Pattern TYPE = Pattern.compile("\\b[A-Z]+[a-z]\\w*");
    private static final Pattern QUALIFIED = Pattern.compile("\\b([A-Z]\\w*)\\.\\w+(?=\\()");
    private static final int MOST_DEEP = 8;
    private static final Pattern CALL = Pattern.compile("\\b(\\w+)\\(");
    private static final Pattern METHOD = Pattern.compile(
            "^ +(?:(?:public|private|static|final) )*(\\w+(?:\\[\\])* )?(\\w+)\\(([^()]*)\\) \\{$");

    /** What each method calls, by name; methods of one name in several classes are taken together. */
    private static final Map<String, Set<String>> calls = new TreeMap<>();

    public static void main(String[] args) throws Exception {
        byte[] bytes = Files.readAllBytes(Path.of("src/main/java/ShadeNames.java"));
        due.part("signs");
        for (byte sign : bytes) {
            due.holds("sign " + sign, sign == '\n' || sign >= 32);
        }
        String source = new String(bytes, StandardCharsets.US_ASCII);
        String code = source.replaceAll("(?s)/\\*.*?\\*/", "").replaceAll("//[^\n]*", "").replaceAll("\"[^\"\n]*\"", "\"\"");
        due.part("words");
        for (String word : RULED_OUT) {
            boolean plain = word.matches("\\w+");
            Matcher found = Pattern.compile(plain ? "\\b" + word + "\\b" : Pattern.quote(word)).matcher(code);
            due.holds("no " + word, !found.find());
        }
        library(code);
        methods(code.split("\n"));
        due.part("depth");
        for (String method : calls.keySet()) {
            int depth = depthOf(method, new ArrayList<>());
            due.holds(method + " goes " + depth + " deep", depth <= MOST_DEEP);
        }
        due.end();
    }

    private static void library(String code) {
        due.part("library");
        Set<String> own = new TreeSet<>();
        Matcher inside = CLASS_INSIDE.matcher(code);
        while (inside.find()) {
            own.add(inside.group(1));
        }
        due.holds("some twelve classes, not " + own, own.size() > 1 && own.size() <= 12);
        Matcher type = TYPE.matcher(code);
        while (type.find()) {
            due.holds("no " + type.group(), own.contains(type.group()) || LIBRARY.contains(type.group()));
        }
        Matcher call = QUALIFIED.matcher(code);
        while (call.find()) {
            due.holds("no " + call.group(), own.contains(call.group(1)) || LIBRARY_CALLS.contains(call.group()));
        }
    }

    private static void methods(String[] lines) {
        due.part("methods");
        int seen = 0;
        for (int i = 0; i < lines.length; i++) {
            Matcher head = METHOD.matcher(lines[i]);
            if (!head.matches() || head.group(2).matches("if|for|while|switch")) {
                continue;
            }
            seen++;
            String indent = lines[i].substring(0, lines[i].length() - lines[i].stripLeading().length());
            List<String> body = new ArrayList<>();
            int end = i + 1;
            while (end < lines.length && !lines[end].equals(indent + "}")) {
                body.add(lines[end]);
                end++;
            }
            due.holds(head.group(2) + " is short", body.size() <= 60);
            due.holds(head.group(2) + " takes seven at most", head.group(3).split(",").length <= 7);
            Set<String> called = calls.computeIfAbsent(head.group(2), name -> new TreeSet<>());
            Matcher call = CALL.matcher(String.join("\n", body));
            while (call.find()) {
                called.add(call.group(1));
            }
            boolean constructor = head.group(1) == null || Character.isUpperCase(head.group(2).charAt(0));
            if (!constructor) {
                for (String line : body) {
                    due.holds(head.group(2) + " makes no object", !line.matches(".*\\bnew\\b.*"));
                }
            }
        }
        due.holds("methods are found", seen > 90);
    }

    /** How many calls stand open at most, the library's too; a method that calls itself counts once. */
    private static int depthOf(String method, List<String> open) {
        if (!calls.containsKey(method)) {
            return 1;
        }
        List<String> now = new ArrayList<>(open);
        now.add(method);
        int deepest = 0;
        for (String called : calls.get(method)) {
            if (called.equals(method) || called.matches("if|for|while|switch|return")) {
                continue;
            }
            due.holds(method + " comes back to " + called, !now.contains(called));
            if (!now.contains(called)) {
                deepest = Math.max(deepest, depthOf(called, now));
            }
        }
        return 1 + deepest;
    }
}
