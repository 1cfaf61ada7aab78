import java.io.File;
import java.io.IOException;
import java.nio.file.Files;
import java.nio.file.Path;
import java.util.TreeSet;
import java.util.regex.Matcher;
import java.util.regex.Pattern;

/** README.md: its example is the one that is run here, and its table tells of every test that there is. */
public final class ReadmeTest {
    private static final Check CHECK = new Check("ReadmeTest");

    public static void main(String[] args) throws IOException {
        String readme = Files.readString(Path.of("README.md"));
        example();
        refused();
        CHECK.due("the example of README.md is the one that is run", true,
                linesOf("src/test/java/ReadmeTest.java").contains(firstBlock(readme)));
        CHECK.due("the tests in the table of README.md", testsThatAre(), testsTold(readme));
        CHECK.end();
    }

    private static void example() {
        Milletcourt x = new Milletcourt();
        int greeks = x.community();
        int man = x.person(true, Milletcourt.NONE, Milletcourt.NONE, greeks);
        int woman = x.person(false, Milletcourt.NONE, Milletcourt.NONE, greeks);
        x.pass(2000);
        x.pass(2000);
        x.pass(1000);                               // both are minors for 5000 days
        int marriage = x.marry(man, woman, 300);    // with a dower of 300 cents
        x.goods(man, 1000);
        x.dies(man);                                // pays the dower, then the widow's part; the rest goes to the crown
        long widowHas = x.ofPerson(woman, 0);       // 300 + 175
        long crownHas = x.treasury();               // 525
        int isWidowed = x.ofMarriage(marriage, 0);  // Milletcourt.WIDOWED
        CHECK.due("the widow has", 475, widowHas);
        CHECK.due("the crown has", 525, crownHas);
        CHECK.due("the marriage is", Milletcourt.WIDOWED, isWidowed);
    }

    private static void refused() {
        Milletcourt x = Check.empire(1);
        CHECK.noIndex("a person that is not there", () -> x.ofPerson(0, 0));
        CHECK.noArgument("days out of range", () -> x.pass(0));
        int child = Check.man(x, 0);
        int mother = Check.woman(x, 0);
        CHECK.noState("a call that cannot be now", () -> x.marry(child, mother, 0));
    }

    private static String firstBlock(String readme) {
        Matcher found = Pattern.compile("(?s)```java\n(.*?)```").matcher(readme);
        return found.find() ? found.group(1) : "no example";
    }

    private static String linesOf(String file) throws IOException {
        StringBuilder lines = new StringBuilder();
        for (String line : Files.readAllLines(Path.of(file))) {
            lines.append(line.strip()).append('\n');
        }
        return lines.toString();
    }

    private static TreeSet<String> testsTold(String readme) {
        TreeSet<String> told = new TreeSet<>();
        Matcher found = Pattern.compile("(?m)^\\| `(\\w+)` \\|").matcher(readme);
        while (found.find()) {
            told.add(found.group(1));
        }
        return told;
    }

    private static TreeSet<String> testsThatAre() {
        TreeSet<String> tests = new TreeSet<>();
        String[] files = new File("src/test/java").list();
        for (String file : files == null ? new String[0] : files) {
            if (file.endsWith("Test.java")) {
                tests.add(file.replace(".java", ""));
            }
        }
        return tests;
    }
}
