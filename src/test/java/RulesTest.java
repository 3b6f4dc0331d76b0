import java.io.IOException;
import java.nio.file.Files;
import java.nio.file.Path;
import java.util.HashMap;
import java.util.HashSet;
import java.util.Map;
import java.util.Set;
import java.util.TreeSet;
import java.util.regex.Matcher;
import java.util.regex.Pattern;

/** What of LANGUAGE.md can be seen from the text of the class. Runs in the project's folder. */
public final class RulesTest {
    private static final Due due = new Due("RulesTest");
    private static final Pattern METHOD = Pattern.compile(
        "^ +(?:(?:public|private|static|final) )*(?:[A-Za-z\\[\\]]+ )?([A-Za-z]+)\\(([^()]*)\\) \\{$", Pattern.MULTILINE);
    private static final Pattern CALL = Pattern.compile("\\b([a-zA-Z]+)\\(");
    private static final Set<String> NO_CALLS = Set.of("if", "for", "while", "switch", "return");
    private static final Set<String> LIBRARY = Set.of("System.arraycopy", "Arrays.fill", "Math.min", "Math.max", "Integer.bitCount",
        "signs.indexOf");

    public static void main(String[] args) throws IOException {
        String raw = Files.readString(Path.of("src/main/java/CableCars.java"));
        due.holds("signs 1 to 127 alone", raw.chars().allMatch(c -> c == '\n' || c >= 32 && c < 127));
        String text = raw.replaceAll("(?s)/\\*.*?\\*/", "").replaceAll("//[^\n]*", "").replaceAll("\"[^\"\n]*\"", "\"\"");
        words(text);
        library(text);
        methods(text);
        classes(text);
        due.end();
    }

    private static void words(String text) {
        String[] never = {"throw", "throws", "try", "catch", "finally", "synchronized", "assert", "Exception", "Error", "Object",
            "equals", "hashCode", "toString", "double", "float", "protected", "volatile", "transient", "native", "package",
            "goto", "strictfp", "this\\(", "super"};
        for (String word : never) {
            due.holds("no " + word, !Pattern.compile("\\b" + word + (word.endsWith("(") ? "" : "\\b")).matcher(text).find());
        }
        due.holds("no lambda", !text.contains("->"));
        due.holds("no method reference", !text.contains("::"));
        due.holds("nothing Exact", !Pattern.compile("Exact\\b").matcher(text).find());
        due.holds("no static block", !Pattern.compile("\\bstatic \\{").matcher(text).find());
        due.holds("no list or generic", !Pattern.compile("[A-Za-z]<[A-Z>]").matcher(text).find());
        due.holds("no text joined by +", !text.contains("\"\" +") && !text.contains("+ \"\""));
        due.holds("one import", text.split("\\bimport\\b", -1).length == 2 && text.contains("import java.util.Arrays;"));
    }

    private static void library(String text) {
        Matcher m = Pattern.compile("\\b(?:System|Arrays|Math|Integer|Long|String|Character|signs)\\.[a-zA-Z_]+").matcher(text);
        while (m.find()) {
            due.holds(m.group() + " is a listed one", LIBRARY.contains(m.group()) || m.group().equals("util.Arrays"));
        }
        Matcher fill = Pattern.compile("Arrays\\.fill\\((\\w+)").matcher(text);
        while (fill.find()) {
            due.holds("fill of " + fill.group(1) + " is over numbers", !text.contains("boolean[] " + fill.group(1)));
        }
    }

    private static int bodyEnd(String text, int open) {
        int depth = 0;
        for (int i = open; i < text.length(); i++) {
            if (text.charAt(i) == '{') {
                depth++;
            } else if (text.charAt(i) == '}' && --depth == 0) {
                return i;
            }
        }
        return text.length();
    }

    private static void methods(String text) {
        Map<String, Set<String>> calls = new HashMap<>();
        Matcher m = METHOD.matcher(text);
        int found = 0;
        while (m.find()) {
            if (NO_CALLS.contains(m.group(1))) {
                continue;
            }
            found++;
            String body = text.substring(m.end() - 1, bodyEnd(text, m.end() - 1));
            due.holds(m.group(1) + " is short", body.split("\n").length <= 60);
            due.holds(m.group(1) + " has at most seven parameters", m.group(2).split(",").length <= 7);
            Set<String> called = calls.computeIfAbsent(m.group(1), k -> new TreeSet<>());
            Matcher c = CALL.matcher(body);
            while (c.find()) {
                if (!NO_CALLS.contains(c.group(1))) {
                    called.add(c.group(1));
                }
            }
        }
        due.holds("methods are found (" + found + ")", found > 80);
        int deepest = 0;
        for (String name : calls.keySet()) {
            deepest = Math.max(deepest, depth(name, calls, new HashSet<>()));
        }
        System.out.println("RulesTest: calls go " + deepest + " deep");
        due.holds("calls go at most eight deep", deepest <= 8);
    }

    private static int depth(String name, Map<String, Set<String>> calls, Set<String> open) {
        if (!open.add(name)) {
            due.tell(name + " calls itself");
            return 0;
        }
        int most = 0;
        for (String next : calls.getOrDefault(name, Set.of())) {
            most = Math.max(most, depth(next, calls, open));
        }
        open.remove(name);
        return most + 1;
    }

    private static void classes(String text) {
        Matcher m = Pattern.compile("\\bclass (\\w+) \\{").matcher(text);
        int n = 0;
        while (m.find()) {
            n++;
            String body = text.substring(m.end() - 1, bodyEnd(text, m.end() - 1));
            String indent = m.group(1).equals("CableCars") ? "    " : "        ";
            Matcher f = Pattern.compile("^" + indent + "(?:private )?(?:final )?[\\w\\[\\]]+ \\w+(?: = [^;{]*)?;$", Pattern.MULTILINE)
                .matcher(body);
            int fields = 0;
            while (f.find()) {
                fields++;
            }
            due.holds(m.group(1) + " has at most twenty fields (" + fields + ")", fields <= 20);
        }
        due.holds("at most twelve classes", n > 1 && n <= 12);
    }
}
