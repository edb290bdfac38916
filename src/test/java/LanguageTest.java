import java.io.IOException;
import java.lang.reflect.Field;
import java.lang.reflect.Modifier;
import java.nio.file.Files;
import java.nio.file.Path;
import java.util.Map;
import java.util.Set;
import java.util.TreeMap;
import java.util.TreeSet;
import java.util.regex.Matcher;
import java.util.regex.Pattern;

/** What can be seen in the source of the rules in LANGUAGE.md; run from the project's folder. */
public final class LanguageTest {
    private static final Due DUE = new Due("LanguageTest");

    public static void main(String[] args) throws IOException {
        String source = Files.readString(Path.of("src/main/java/MonitorTurns.java"));
        String code = source.replaceAll("(?s)/\\*.*?\\*/", " ").replaceAll("//[^\n]*", " ");
        String[] words = {"throw", "throws", "try", "catch", "finally", "synchronized", "assert", "package", "native",
            "protected", "volatile", "transient", "Object", "Thread", "System\\.(?!arraycopy)\\w+", "\\w+Exact",
            "equals", "hashCode", "toString", "Random", "instanceof"};
        for (String word : words) {
            DUE.holds("no " + word, !found(code, "\\b" + word + "\\b"));
        }
        DUE.holds("no lambda", !code.contains("->"));
        DUE.holds("no method reference", !code.contains("::"));
        DUE.holds("no static block", !found(code, "static\\s*\\{"));
        DUE.holds("no static state", !found(code, "static (?!final|class)[\\w\\[\\]]+ \\w+\\s*[=;]"));
        DUE.holds("no import but Arrays", count(code, "\\bimport\\b") == count(code, "import java\\.util\\.Arrays;"));
        DUE.holds("at most twelve classes", count(code, "\\bclass \\w+") <= 12);
        DUE.holds("characters up to 255", source.chars().allMatch(c -> c <= 255));
        methods(code);
        fields();
        DUE.close();
    }

    private static void methods(String code) {
        Map<String, Set<String>> calls = new TreeMap<>();
        Matcher head = Pattern.compile("\n( +)[\\w\\[\\] ]*?(\\w+)\\(([^()]*)\\) \\{\n").matcher(code);
        int seen = 0;
        while (head.find()) {
            String name = head.group(2);
            if (name.matches("if|for|while|switch")) {
                continue;
            }
            seen++;
            String body = code.substring(head.end(), code.indexOf("\n" + head.group(1) + "}", head.end()) + 1);
            long lines = body.lines().count() + 2;
            DUE.holds(name + " has at most sixty lines, not " + lines, lines <= 60);
            DUE.holds(name + " has at most seven parameters", head.group(3).split(",").length <= 7);
            Pattern.compile("\\b(\\w+)\\(").matcher(body).results()
                    .forEach(call -> calls.computeIfAbsent(name, n -> new TreeSet<>()).add(call.group(1)));
        }
        DUE.holds("methods were seen: " + seen, seen > 60);
        for (String name : calls.keySet()) {
            int depth = depth(calls, name, 1);
            DUE.holds(name + " calls at most eight deep, not " + depth, depth <= 8);
        }
    }

    /** Methods of one name count as one; a recursion comes out as deeper than the rule lets calls go. */
    private static int depth(Map<String, Set<String>> calls, String name, int open) {
        int deepest = open;
        if (open <= 8) {
            for (String called : calls.getOrDefault(name, Set.of())) {
                deepest = Math.max(deepest, depth(calls, called, open + 1));
            }
        }
        return deepest;
    }

    private static void fields() {
        for (Class<?> inside : MonitorTurns.class.getDeclaredClasses()) {
            fields(inside);
        }
        fields(MonitorTurns.class);
    }

    private static void fields(Class<?> type) {
        int own = 0;
        for (Field field : type.getDeclaredFields()) {
            boolean isStatic = Modifier.isStatic(field.getModifiers());
            own += isStatic ? 0 : 1;
            DUE.holds(field + " is no static state", !isStatic || Modifier.isFinal(field.getModifiers()));
        }
        DUE.holds(type + " has some twenty fields at most, not " + own, own <= 20);
    }

    private static boolean found(String code, String pattern) {
        return Pattern.compile(pattern).matcher(code).find();
    }

    private static int count(String code, String pattern) {
        return (int) Pattern.compile(pattern).matcher(code).results().count();
    }
}
