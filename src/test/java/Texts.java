import java.io.IOException;
import java.nio.charset.StandardCharsets;
import java.nio.file.Files;
import java.nio.file.Path;
import java.util.ArrayList;
import java.util.List;
import java.util.regex.Matcher;
import java.util.regex.Pattern;

/** The texts that tests look at: the document, README.md and the sources; all as seen from the project's folder. */
final class Texts {
    static final Path DOCUMENT = Path.of("../shared/DOC.md");
    static final Path README = Path.of("README.md");
    static final Path CLASS = Path.of("src/main/java/PastWatch.java");
    static final Path TESTS = Path.of("src/test/java");

    /** A fenced block of a text, with the sort that its fence tells. */
    record Block(String sort, String text) {
    }

    private Texts() {
    }

    static String read(Path path) {
        try {
            return Files.readString(path, StandardCharsets.UTF_8);
        } catch (IOException e) {
            throw new IllegalStateException("cannot read " + path, e);
        }
    }

    static List<Block> blocks(String text) {
        List<Block> blocks = new ArrayList<>();
        Matcher matcher = Pattern.compile("^```(\\w*)\n(.*?)^```$", Pattern.MULTILINE | Pattern.DOTALL).matcher(text);
        while (matcher.find()) {
            blocks.add(new Block(matcher.group(1), matcher.group(2)));
        }
        return blocks;
    }

    /** The names of the files of a folder that end in "Test.java", without ".java". */
    static List<String> testsIn(Path folder) {
        try (var files = Files.list(folder)) {
            return files.map(file -> file.getFileName().toString()).filter(name -> name.endsWith("Test.java"))
                .map(name -> name.substring(0, name.length() - ".java".length())).sorted().toList();
        } catch (IOException e) {
            throw new IllegalStateException("cannot list " + folder, e);
        }
    }

    /** The part of the document with this head, without the head; empty if there is none. */
    static String part(String head) {
        String line = "^(?:##|==) " + Pattern.quote(head) + "(?::[^\n]*)?\n";
        Matcher matcher = Pattern.compile(line + "(?s:(.*?))(?=^(?:##|==) |\\z)", Pattern.MULTILINE).matcher(read(DOCUMENT));
        return matcher.find() ? matcher.group(1) : "";
    }
}
