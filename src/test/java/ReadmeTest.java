import java.io.IOException;
import java.nio.file.Files;
import java.nio.file.Path;
import java.util.ArrayList;
import java.util.List;
import java.util.regex.Matcher;
import java.util.regex.Pattern;

/** That README.md names every call by its promise and its parameters, and that what it shows is so. */
public final class ReadmeTest {
    private static final Check CHECK = new Check("ReadmeTest");
    private static final Pattern PROMISE = Pattern.compile("(?m)^## Promise (\\d+): (.*)\\n\\n`(?:\\w+ )?(\\w+)\\(([^)]*)\\)");
    private static final Pattern ROW = Pattern.compile("(?m)^\\| `(?:new )?(\\w+\\([^)]*\\))` \\|[^|]+\\| (\\d+) \\| ([^|]+) \\|$");

    private static String withNamesAlone(String parameters) {
        List<String> names = new ArrayList<>();
        for (String parameter : parameters.split(", ")) {
            names.add(parameter.substring(parameter.lastIndexOf(' ') + 1));
        }
        return String.join(", ", names);
    }

    /** The calls of the document, each with its promise. */
    private static List<String> promised(String doc) {
        List<String> all = new ArrayList<>();
        Matcher m = PROMISE.matcher(doc);
        while (m.find()) {
            all.add(m.group(1) + " " + m.group(3) + "(" + withNamesAlone(m.group(4)) + ")");
        }
        return all;
    }

    private static void tableOfCalls(String doc, String readme) {
        List<String> shown = new ArrayList<>();
        Matcher m = ROW.matcher(readme);
        while (m.find()) {
            shown.add(m.group(2) + " " + m.group(1));
            CHECK.due("the document has " + m.group(3), doc.contains(m.group(3)), true);
        }
        List<String> due = promised(doc);
        CHECK.due("promises found in the document", due.size(), 44);
        CHECK.due("calls in the table", shown.size(), 44);
        for (int i = 0; i < Math.min(due.size(), shown.size()); i++) {
            CHECK.due(shown.get(i) + " stands for " + due.get(i), shown.get(i).equals(due.get(i)), true);
        }
    }

    private static int tell(WaxBowl bowl, String text) {
        for (int at = 0; at < text.length(); at += 20) {
            int[] five = new int[5];
            for (int i = 0; i < 20; i++) {
                int sign = at + i < text.length() ? text.charAt(at + i) : ' ';
                five[i / 4] = five[i / 4] << 8 | sign;
            }
            bowl.feed(five[0], five[1], five[2], five[3], five[4]);
        }
        return bowl.text(text.length());
    }

    private static void whatItShows() {
        WaxBowl bowl = new WaxBowl();
        CHECK.due("the text", tell(bowl, "guest ann 60 30 3;"
                + "guest bob 70 40 5;"
                + "fruit pear 4 1;"
                + "bite bob 1;"
                + "law praise wit + sweet;"
                + "near 1;cold 30;seed 7;"), 8);
        CHECK.due("nextBite(0)", bowl.nextBite(0), 2);
        CHECK.due("go(2)", bowl.go(2), 2);
        CHECK.due("guest(1, 6)", bowl.guest(1, 6), 1);
        CHECK.due("fruit(0, 2)", bowl.fruit(0, 2), 1);
        CHECK.due("a text with a fault", tell(bowl, "guest ann 60 30;"), -1);
        CHECK.due("fault(0)", bowl.fault(0), 1);
        CHECK.due("fault(1)", bowl.fault(1), 15);
    }

    private static void tableOfTests(String readme) throws IOException {
        try (var files = Files.list(Path.of("src/test/java"))) {
            for (Path file : files.sorted().toList()) {
                String name = file.getFileName().toString().replace(".java", "");
                if (name.endsWith("Test")) {
                    CHECK.due(name + " is in the table", readme.contains("`" + name + "`"), true);
                }
            }
        }
        CHECK.due("the command that runs all tests", readme.contains(".ci/run"), true);
    }

    public static void main(String[] args) throws IOException {
        String doc = Files.readString(Path.of("../shared/DOC.md"));
        String readme = Files.readString(Path.of("README.md"));
        tableOfCalls(doc, readme);
        whatItShows();
        tableOfTests(readme);
        CHECK.end();
    }
}
