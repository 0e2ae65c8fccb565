import java.io.IOException;
import java.nio.file.DirectoryStream;
import java.nio.file.Files;
import java.nio.file.Path;
import java.util.ArrayList;
import java.util.List;
import java.util.Map;
import java.util.TreeMap;
import java.util.regex.Matcher;
import java.util.regex.Pattern;

/** README.md tells each call of the document's face, and its example answers as it says. */
public final class FerryRightsReadme {
    private static final String[] SAID_OF_USE = {
        "`new FerryRights()`", "**An object is used for at most 512 calls**", "A call that throws changes nothing",
        "    .ci/run\n", "../shared/tests",
    };

    private static List<String> example = new ArrayList<>();
    private static int asked = 0;

    private FerryRightsReadme() {
    }

    private static String parameterNames(String declared) {
        return declared.replaceAll("\\w+ (\\w+)", "$1");
    }

    /** Each call of the document's face, with the names of its parameters, and what it throws, in order. */
    private static Map<String, String> callsOfDocument() throws IOException {
        Map<String, String> calls = new TreeMap<>();
        Pattern line = Pattern.compile("    public \\w+ (\\w+)\\(([^)]*)\\)(?: throws ([\\w, ]+))?;");
        for (String text : Files.readAllLines(Path.of("../shared/DOC.md"))) {
            Matcher m = line.matcher(text);
            if (m.matches()) {
                calls.put(m.group(1) + "(" + parameterNames(m.group(2)) + ")", m.group(3) == null ? "" : m.group(3));
            }
        }
        return calls;
    }

    /** Each call that a list of the page tells: - `call(parameters)`: what it does. `Exception`: why. */
    private static Map<String, String> callsOfPage(String page) {
        Map<String, String> calls = new TreeMap<>();
        Matcher entry = Pattern.compile("(?m)^- `(\\w+\\([^)]*\\))`: ((?:.+\n(?:  )?)+?)(?=- |\n)").matcher(page);
        while (entry.find()) {
            Checks.due("the entries of " + entry.group(1) + " before", calls.containsKey(entry.group(1)), false);
            calls.put(entry.group(1), exceptionsIn(entry.group(2)));
        }
        return calls;
    }

    private static String exceptionsIn(String text) {
        List<String> names = new ArrayList<>();
        Matcher name = Pattern.compile("`(\\w+Exception)`:\\s+\\S").matcher(text);
        while (name.find()) {
            names.add(name.group(1));
        }
        return String.join(", ", names);
    }

    private static List<String> linesOfExample(String page) {
        List<String> lines = new ArrayList<>();
        Matcher block = Pattern.compile("(?s)```java\n(.*?)```").matcher(page);
        Checks.due("finding the example", block.find(), true);
        for (String line : block.group(1).split("\n")) {
            lines.add(line.replaceAll(" +", " "));
        }
        return lines;
    }

    /** The example's next line is this statement, and its remark begins with this answer. */
    private static void next(String statement, Object answer) {
        String line = asked < example.size() ? example.get(asked) : "";
        asked++;
        String due = statement + " // " + answer;
        Checks.due("'" + line + "' as '" + due + "'", line.equals(due) || line.startsWith(due + ","), true);
    }

    private static String thrownBy(Runnable call) {
        try {
            call.run();
            return "answers";
        } catch (RuntimeException e) {
            return "throws " + e.getClass().getSimpleName();
        }
    }

    private static void runExample() {
        FerryRights river = new FerryRights();
        Checks.dueText("the example's first line", example.get(asked++), "FerryRights river = new FerryRights();");
        int ferry = river.addFerry(3);
        next("int ferry = river.addFerry(3);", ferry);
        int mother = river.addPerson();
        next("int mother = river.addPerson();", mother);
        int elder = river.addChild(mother);
        next("int elder = river.addChild(mother);", elder);
        int younger = river.addChild(mother);
        next("int younger = river.addChild(mother);", younger);
        next("river.grant(ferry, 1, mother, 41);", river.grant(ferry, 1, mother, 41));
        next("river.carry(ferry, 7, 10);", river.carry(ferry, 7, 10));
        next("river.coins(mother);", river.coins(mother));
        next("river.price(mother, ferry, 1);", river.price(mother, ferry, 1));
        next("river.canBuy(elder, mother, ferry, 1);", river.canBuy(elder, mother, ferry, 1));
        next("river.inheritance(mother, elder, ferry, 1);", river.inheritance(mother, elder, ferry, 1));
        next("river.die(mother);", river.die(mother));
        next("river.coins(younger);", river.coins(younger));
        next("river.toll(1);", thrownBy(() -> river.toll(1)));
        Checks.due("the example's lines", example.size(), asked);
    }

    private static void needEachTestTold(String page) throws IOException {
        try (DirectoryStream<Path> files = Files.newDirectoryStream(Path.of("src/test/java"), "*.java")) {
            for (Path file : files) {
                String name = file.getFileName().toString().replace(".java", "");
                Checks.due("a line on " + name, page.contains("\n- `" + name + "`: "), true);
            }
        }
    }

    public static void main(String[] args) throws IOException {
        Checks.label("README.md");
        String page = Files.readString(Path.of("README.md"));
        Map<String, String> due = callsOfDocument();
        Checks.due("the calls of the document", due.size(), 40);
        Checks.dueText("the calls and what they throw", callsOfPage(page).toString(), due.toString());
        for (String said : SAID_OF_USE) {
            Checks.due("saying '" + said + "'", page.contains(said), true);
        }
        needEachTestTold(page);
        example = linesOfExample(page);
        runExample();
        System.out.println(Checks.faults() == 0 ? "README.md holds" : Checks.faults() + " faults of README.md");
        if (Checks.faults() != 0) {
            System.exit(1);
        }
    }
}
