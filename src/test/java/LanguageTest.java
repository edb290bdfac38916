import java.io.IOException;
import java.nio.file.Files;
import java.nio.file.Path;
import java.util.regex.Matcher;
import java.util.regex.Pattern;

/** What can be seen in the source of the rules in LANGUAGE.md; run from the project's folder. */
public final class LanguageTest {
    private static final Due DUE = new Due("LanguageTest");

    public static void main(String[] args) throws IOException {
        String source = Files.readString(Path.of("src/main/java/MonitorTurns.java"));
        String code = source.replaceAll("(?s)/\\*.*?\\*/", " ").replaceAll("//[^\n]*", " ");
        String[] words = {"throw", "throws", "try", "catch", "finally", "synchronized", "assert", "package", "native",
            "protected", "volatile", "transient", "Object", "Thread", "System\\.(?!arraycopy)\\w+", "\\w+Exact",
            "equals", "hashCode", "toString", "Random", "instanceof"};
        for (String word : words) {
            DUE.holds("no " + word, !found(code, "\\b" + word + "\\b"));
        }
        DUE.holds("no lambda", !code.contains("->"));
        DUE.holds("no method reference", !code.contains("::"));
        DUE.holds("no static block", !found(code, "static\\s*\\{"));
        DUE.holds("no static state", !found(code, "static (?!final|class)[\\w\\[\\]]+ \\w+\\s*[=;]"));
        DUE.holds("no import but Arrays", count(code, "\\bimport\\b") == count(code, "import java\\.util\\.Arrays;"));
        DUE.holds("at most twelve classes", count(code, "\\bclass \\w+") <= 12);
        DUE.holds("characters up to 255", source.chars().allMatch(c -> c <= 255));
        methods(code);
        DUE.close();
    }

    private static void methods(String code) {
        Matcher head = Pattern.compile("\n( +)[\\w\\[\\] ]*?(\\w+)\\(([^()]*)\\) \\{\n").matcher(code);
        int seen = 0;
        while (head.find()) {
            if (head.group(2).matches("if|for|while|switch")) {
                continue;
            }
            seen++;
            int end = code.indexOf("\n" + head.group(1) + "}", head.end());
            long lines = code.substring(head.start() + 1, end).lines().count() + 1;
            DUE.holds(head.group(2) + " has at most sixty lines, not " + lines, lines <= 60);
            DUE.holds(head.group(2) + " has at most seven parameters", head.group(3).split(",").length <= 7);
        }
        DUE.holds("methods were seen: " + seen, seen > 60);
    }

    private static boolean found(String code, String pattern) {
        return Pattern.compile(pattern).matcher(code).find();
    }

    private static int count(String code, String pattern) {
        return (int) Pattern.compile(pattern).matcher(code).results().count();
    }
}
