import java.io.IOException;
import java.nio.file.Files;
import java.nio.file.Path;
import java.util.Arrays;
import java.util.List;
import java.util.TreeSet;
import java.util.regex.Matcher;
import java.util.regex.Pattern;

/** What of LANGUAGE.md can be seen in the lines of src/main/java/Milletcourt.java. */
public final class LanguageTest {
    private static final Check CHECK = new Check("LanguageTest");
    private static final String[] LEFT_OUT = {
        "->", "::", "\\bfinally\\b", "\\btry\\b", "\\bcatch\\b", "\\bsynchronized\\b", "\\bassert\\b", "\\brecord\\b",
        "\\bprotected\\b", "\\bpackage\\b", "Exact\\b", "\\bequals\\(", "hashCode", "toString", "Random", "Thread",
        "System\\.(?!arraycopy)", "\\bvar\\b", "\" *\\+", "\\+ *\"", "Object\\b", "\\bclass \\w+ extends",
        "static \\{", "static (?!final|long|int|boolean|void|Person|Chronicle)\\w",
    };

    public static void main(String[] args) throws IOException {
        List<String> lines = Files.readAllLines(Path.of("src/main/java/Milletcourt.java"));
        StringBuilder code = new StringBuilder();
        for (String line : lines) {
            CHECK.due("signs 1 to 127 in: " + line, true, line.chars().allMatch(c -> c > 0 && c < 128));
            code.append(line.replaceAll("//.*|/\\*\\*.*\\*/", "")).append('\n');
        }
        words(code.toString());
        imports(code.toString());
        classes(code.toString());
        methods(code.toString());
        exceptions(code.toString());
        CHECK.end();
    }

    private static void words(String code) {
        for (String word : LEFT_OUT) {
            CHECK.due("what is left out, " + word, false, Pattern.compile(word).matcher(code).find());
        }
    }

    private static void imports(String code) {
        Matcher found = Pattern.compile("import ([^;]*);").matcher(code);
        TreeSet<String> seen = new TreeSet<>();
        while (found.find()) {
            seen.add(found.group(1));
        }
        CHECK.due("imports", "[java.util.ArrayList, java.util.Arrays]", seen);
    }

    private static void classes(String code) {
        int count = 0;
        Matcher found = Pattern.compile("(?m)^ *(.*)\\bclass \\w+ \\{").matcher(code);
        while (found.find()) {
            count++;
            CHECK.due("a class is", count == 1 ? "public final " : "private static final ", found.group(1));
        }
        CHECK.due("at most twelve classes", true, count <= 12);
    }

    /** A method begins with its name and parameters, and ends with a brace of its own indent. */
    private static void methods(String code) {
        Matcher found = Pattern.compile("(?ms)^( +)((?:public |private |static )*)([\\w\\[\\]<>]+ )?(\\w+)\\(([^()]*)\\)"
                + "[^;{}=]*\\{\n(.*?)^\\1\\}").matcher(code);
        TreeSet<String> open = new TreeSet<>();
        TreeSet<String> hidden = new TreeSet<>();
        while (found.find()) {
            String name = found.group(4);
            if (Arrays.asList("if", "for", "while", "switch").contains(name)) {
                continue;
            }
            CHECK.due("at most 60 lines in " + name, true, found.group(6).split("\n").length <= 60);
            CHECK.due("at most 7 parameters of " + name, true, found.group(5).split(",").length <= 7);
            (found.group(2).startsWith("public") ? open : hidden).add(name);
        }
        CHECK.due("the public methods and the constructor", 28, open.size());
        CHECK.due("other methods", true, hidden.size() > 30);
        hidden.retainAll(open);
        CHECK.due("other methods of public names", "[]", hidden);
    }

    private static void exceptions(String code) {
        Matcher found = Pattern.compile("throw (.*)").matcher(code);
        while (found.find()) {
            boolean isOfRule = found.group(1).matches(
                    "new (IllegalState|IllegalArgument|IndexOutOfBounds)Exception\\(\"[^\"]*\"\\);");
            CHECK.due("by rule 6: " + found.group(1), true, isOfRule);
        }
    }
}
