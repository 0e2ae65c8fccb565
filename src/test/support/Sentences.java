import java.io.IOException;
import java.nio.file.Files;
import java.nio.file.Path;
import java.util.Arrays;
import java.util.LinkedHashMap;
import java.util.Map;

/** Tests that each stand under the words of the document they hold to; words without a test are a fault as well. */
final class Sentences {
    private final Map<String, String> texts = new LinkedHashMap<>();
    private final Map<String, boolean[]> tested = new LinkedHashMap<>();
    private String heading = "";
    private int tests = 0;

    Sentences() throws IOException {
        String section = "";
        for (String line : Files.readAllLines(Path.of("../shared/DOC.md"))) {
            if (line.startsWith("## ")) {
                section = line.substring(3);
                texts.put(section, "");
            } else if (!section.isEmpty()) {
                texts.put(section, texts.get(section) + plain(line) + "\n");
            }
        }
        for (Map.Entry<String, String> text : texts.entrySet()) {
            tested.put(text.getKey(), new boolean[text.getValue().length()]);
        }
    }

    /** Signatures, lists of parameters and the interface's headlines promise nothing by themselves. */
    private static String plain(String line) {
        String text = line.replaceFirst("^`[^`]*\\)[^`]*`: ", "");
        return text.startsWith("- `") || text.startsWith("Ahead of the calls") ? "" : text;
    }

    void under(String section) {
        heading = section;
    }

    /** Runs a test of words that the section under work has. */
    void test(String words, Runnable test) {
        test(words, "", test);
    }

    void test(String words, String edge, Runnable test) {
        Checks.label(heading + ", \"" + words + "\"" + (edge.isEmpty() ? "" : ", " + edge));
        mark(words);
        tests++;
        try {
            test.run();
        } catch (RuntimeException e) {
            Checks.fail("the test threw " + e);
        }
    }

    private void mark(String words) {
        String text = texts.getOrDefault(heading, "");
        int at = text.indexOf(words);
        if (at < 0) {
            Checks.fail("the document has no such words there");
        }
        for (; at >= 0; at = text.indexOf(words, at + 1)) {
            Arrays.fill(tested.get(heading), at, at + words.length(), true);
        }
    }

    /** Fails for each stretch of words, in the sections whose headings start so, that no test has named. */
    void needAll(String start, int sections) {
        int found = 0;
        for (Map.Entry<String, String> text : texts.entrySet()) {
            if (text.getKey().startsWith(start)) {
                found++;
                Checks.label(text.getKey());
                needAllWords(text.getValue(), tested.get(text.getKey()));
            }
        }
        Checks.label("the document");
        Checks.due("the number of sections '" + start + "'", found, sections);
    }

    private static void needAllWords(String text, boolean[] named) {
        for (int from = 0; from < named.length; from++) {
            if (!named[from] && Character.isLetterOrDigit(text.charAt(from))) {
                int to = from;
                while (to < named.length && !named[to] && text.charAt(to) != '\n') {
                    to++;
                }
                Checks.fail("no test of \"" + text.substring(from, to) + "\"");
                from = to;
            }
        }
    }

    /** Ends the program with exit code 1 if there was a fault. */
    void end() {
        int wrong = Checks.faults();
        System.out.println(wrong == 0 ? "all " + tests + " tests hold" : wrong + " faults in " + tests + " tests");
        if (wrong != 0) {
            System.exit(1);
        }
    }
}
