import java.io.IOException;
import java.nio.file.Files;
import java.nio.file.Path;
import java.util.HashSet;
import java.util.List;
import java.util.Set;

/** The example of README.md: its lines stand here too, and answer what it says. */
public final class ReadmeTest {
    public static void main(String[] args) throws IOException {
        Checks checks = new Checks("ReadmeTest");
        example(checks);
        linesStandHere(checks);
        checks.close();
    }

    private static void example(Checks checks) {
        HorseFair fair = new HorseFair();
        lay(fair, "toll 50; open 7; days 2 9; warrant 2 30;");
        int rules = fair.law(0);
        checks.due("rules", rules, 4);
        int anne = fair.person(1000);
        int bert = fair.person(500);
        int grey = fair.horse(anne);
        int sale = fair.sell(grey, bert, 400, 4, 0);
        checks.due("sale", sale, 0);
        int chest = fair.rule(0, 14);
        checks.due("chest", chest, 20);
        fair.next();
        fair.find(grey, 2, 0);
        checks.due("fault", fair.fault(grey, 2, 0), 1);
        int undone = fair.back(grey);
        checks.due("undone", undone, sale);
        int holder = fair.about(grey, 0);
        checks.due("holder", holder, anne);
        checks.due("bert's pence", fair.purse(bert, 0), 500);
        checks.due("a land that is none", fair.sell(grey, bert, 400, 4, 3), -3);
    }

    static void lay(HorseFair fair, String text) {
        for (int i = 0; i < text.length(); i += 20) {
            fair.feed(four(text, i), four(text, i + 4), four(text, i + 8), four(text, i + 12), four(text, i + 16));
        }
        fair.end(text.length());
    }

    static int four(String text, int from) {
        int number = 0;
        for (int i = from; i < from + 4; i++) {
            number = number << 8 | (i < text.length() ? text.charAt(i) : 0);
        }
        return number;
    }

    private static void linesStandHere(Checks checks) throws IOException {
        Set<String> here = new HashSet<>();
        for (String line : Files.readAllLines(Path.of("src/test/java/ReadmeTest.java"))) {
            here.add(line.strip());
        }
        List<String> readme = Files.readAllLines(Path.of("README.md"));
        boolean code = false;
        int lines = 0;
        for (String line : readme) {
            if (line.startsWith("```")) {
                code = line.equals("```java");
            } else if (code) {
                checks.due("README.md's line is tested: " + line, here.contains(line.replaceAll("//.*", "").strip()), true);
                lines++;
            }
        }
        checks.due("README.md has an example", lines > 0, true);
    }
}
