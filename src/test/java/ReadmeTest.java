import java.io.ByteArrayOutputStream;
import java.io.IOException;
import java.io.InputStream;
import java.io.PrintStream;
import java.nio.charset.StandardCharsets;
import java.nio.file.Files;
import java.util.List;
import java.util.Set;
import java.util.TreeSet;
import java.util.regex.Matcher;
import java.util.regex.Pattern;

/** What README.md says of using the class and of running its tests works as it is written there. */
final class ReadmeTest {
    public static void main(String[] args) {
        String readme = Texts.read(Texts.README);
        List<Texts.Block> blocks = Texts.blocks(readme);
        example(blocks);
        int scripts = 0;
        for (int i = 0; i < blocks.size(); i++) {
            if (blocks.get(i).sort().equals("sh")) {
                scripts++;
                // What the first script tells stands behind it.
                script(blocks.get(i).text(), scripts == 1 ? blocks.get(i + 1).text() : null);
            }
        }
        Checks.due("scripts", 3, scripts);
        calls(readme);
        table(readme);
        Checks.due(".ci/run can be run", true, Files.isExecutable(Texts.README.resolveSibling(".ci/run")));
        Checks.end("ReadmeTest");
    }

    private static void example(List<Texts.Block> blocks) {
        Checks.due("the example", Texts.read(Texts.TESTS.resolve("Example.java")), blocks.get(0).text());
        PrintStream before = System.out;
        ByteArrayOutputStream bytes = new ByteArrayOutputStream();
        System.setOut(new PrintStream(bytes, true, StandardCharsets.UTF_8));
        try {
            Example.main(new String[0]);
        } finally {
            System.setOut(before);
        }
        Checks.due("what the example tells", blocks.get(2).text(), bytes.toString(StandardCharsets.UTF_8).replace("\r\n", "\n"));
    }

    private static void script(String text, String due) {
        try {
            Process process = new ProcessBuilder("sh", "-e", "-c", text).redirectErrorStream(true).start();
            String told;
            try (InputStream output = process.getInputStream()) {
                told = new String(output.readAllBytes(), StandardCharsets.UTF_8);
            }
            Checks.due("exit code of\n" + text + told, 0, process.waitFor());
            if (due != null) {
                Checks.due("what is told by\n" + text, due, told);
            }
        } catch (IOException | InterruptedException e) {
            Checks.due("the script\n" + text, "runs", e.toString());
        }
    }

    /** The table of the calls names each call of the face once. */
    private static void calls(String readme) {
        String table = between(readme, "| calls | what for |", "\n\n");
        Set<String> told = new TreeSet<>();
        Matcher row = Pattern.compile("^\\| ([a-zA-Z, ]+) \\|", Pattern.MULTILINE).matcher(table);
        while (row.find()) {
            for (String call : row.group(1).split(", ")) {
                Checks.due("told twice: " + call, true, told.add(call));
            }
        }
        told.remove("calls");
        Set<String> due = new TreeSet<>();
        Matcher method = Pattern.compile("public \\w+ (\\w+)\\(").matcher(Texts.part("The public face"));
        while (method.find()) {
            due.add(method.group(1));
        }
        Checks.due("calls", due.toString(), told.toString());
    }

    /** The table of the tests names each of them. */
    private static void table(String readme) {
        String table = between(readme, "| test | what it looks at |", "\n\n");
        Set<String> told = new TreeSet<>();
        Matcher row = Pattern.compile("^\\| (\\w+Test) \\|", Pattern.MULTILINE).matcher(table);
        while (row.find()) {
            told.add(row.group(1));
        }
        Checks.due("tests", new TreeSet<>(Texts.testsIn(Texts.TESTS)).toString(), told.toString());
    }

    private static String between(String text, String begin, String end) {
        int from = text.indexOf(begin);
        int to = from < 0 ? -1 : text.indexOf(end, from);
        return from < 0 ? "" : text.substring(from, to < 0 ? text.length() : to);
    }
}
