import java.io.File;
import java.io.IOException;
import java.nio.file.Files;
import java.nio.file.Path;
import java.util.ArrayList;
import java.util.List;
import java.util.Map;
import java.util.regex.Matcher;
import java.util.regex.Pattern;

/** README.md: the answers beside its calls, its table of calls beside the document, its table of tests beside the files. */
public final class ReadmeTest {
    private static final Map<String, Integer> CONSTANTS = Map.of("UNKNOWN", HeatBatches.UNKNOWN, "OUTSIDE",
            HeatBatches.OUTSIDE, "STATE", HeatBatches.STATE, "FULL", HeatBatches.FULL, "NONE", HeatBatches.NONE, "FAULT",
            HeatBatches.FAULT);
    // "THE FAULT" is a place on the pad, not an answer
    private static final Pattern REFUSAL = Pattern.compile("(?<!THE )\\b(UNKNOWN|OUTSIDE|FAULT|STATE|FULL)\\b");

    private static final Check check = new Check("ReadmeTest");

    public static void main(String[] args) throws IOException {
        String readme = Files.readString(Path.of("README.md"));
        String document = Files.readString(Path.of("../shared/DOC.md"));
        exampleAnswers(readme);
        callsAndRefusals(readme, document);
        constants(readme);
        tests(readme);
        check.finish();
    }

    private static void exampleAnswers(String readme) {
        Run run = new Run();
        Matcher lines = Pattern.compile("(?m)^x\\.(\\w+\\([^;]*\\)); *// (-?\\d+|[A-Z]+)").matcher(readme);
        int found = 0;
        while (lines.find()) {
            found++;
            check.due(lines.group(), run.ask(signsAsNumbers(lines.group(1))), number(lines.group(2)));
        }
        Matcher all = Pattern.compile("(?m)^x\\.").matcher(readme);
        check.due("calls of the example that have an answer", found, (int) all.results().count());
        check.holds("there is an example", found > 0);
    }

    private static String signsAsNumbers(String call) {
        return Pattern.compile("'(.)'").matcher(call).replaceAll(sign -> String.valueOf((int) sign.group(1).charAt(0)));
    }

    private static int number(String text) {
        return CONSTANTS.containsKey(text) ? CONSTANTS.get(text) : Integer.parseInt(text);
    }

    /** Each call has a row, in the document's order, with the numbers it takes and its refusals in order. */
    private static void callsAndRefusals(String readme, String document) {
        List<String> told = new ArrayList<>();
        Matcher promises = Pattern.compile("(?m)^`int (\\w+)\\(([^)]*)\\)`: (.*)$").matcher(document);
        while (promises.find()) {
            told.add(promises.group(1) + "(" + promises.group(2).replace("int ", "") + ") " + refusals(promises.group(3)));
        }
        List<String> written = new ArrayList<>();
        Matcher rows = Pattern.compile("(?m)^\\| `(\\w+\\([^)]*\\))` \\|[^|]*\\|([^|]*)\\|$").matcher(readme);
        while (rows.find()) {
            written.add(rows.group(1) + " " + refusals(rows.group(2)));
        }
        check.due("calls of the document", told.size(), 21);
        check.due("rows of calls", written.size(), told.size());
        for (int i = 0; i < Math.min(told.size(), written.size()); i++) {
            check.holds("row " + written.get(i) + " is " + told.get(i), written.get(i).equals(told.get(i)));
        }
    }

    private static List<String> refusals(String text) {
        return REFUSAL.matcher(text).results().map(found -> found.group(1)).toList();
    }

    private static void constants(String readme) {
        Matcher rows = Pattern.compile("(?m)^\\| `([A-Z]+)` \\| (-\\d+) \\|").matcher(readme);
        int found = 0;
        while (rows.find()) {
            found++;
            check.due(rows.group(1), number(rows.group(1)), Integer.parseInt(rows.group(2)));
        }
        check.due("refusals with their numbers", found, CONSTANTS.size() - 1);
        check.holds("the number of NONE", readme.contains("`NONE`, " + HeatBatches.NONE + ","));
    }

    private static void tests(String readme) {
        File[] files = new File("src/test/java").listFiles((folder, name) -> name.endsWith("Test.java"));
        check.holds("there are tests", files != null && files.length > 0);
        for (File file : files == null ? new File[0] : files) {
            String name = file.getName().replace(".java", "");
            check.holds(name + " has a row", readme.contains("\n| `" + name + "` |"));
        }
        Matcher rows = Pattern.compile("(?m)^\\| `(\\w+Test)` \\|").matcher(readme);
        check.due("rows of tests", (int) rows.results().count(), files == null ? 0 : files.length);
    }
}
