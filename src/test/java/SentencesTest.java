import java.util.HashMap;
import java.util.HashSet;
import java.util.Map;
import java.util.Set;
import java.util.regex.Matcher;
import java.util.regex.Pattern;

/** The sentences that the tests of boundary cases quote: they stand in the document, and none that names an exception is left out. */
final class SentencesTest {
    private static final String LITERAL = "\"((?:[^\"\\\\]|\\\\.)*)\"";
    private static final Pattern QUOTED =
        Pattern.compile("Checks\\.sentence\\(\\s*" + LITERAL + ",\\s*(" + LITERAL + "(?:\\s*\\+\\s*" + LITERAL + ")*),");

    public static void main(String[] args) {
        Map<String, Set<String>> quoted = new HashMap<>();
        for (String test : Texts.testsIn(Texts.TESTS)) {
            if (test.endsWith("EdgesTest")) {
                addQuoted(quoted, Texts.read(Texts.TESTS.resolve(test + ".java")));
            }
        }
        Checks.due("parts with sentences", true, quoted.size() >= 28);
        for (String part : quoted.keySet()) {
            String text = Texts.part(part);
            for (String words : quoted.get(part)) {
                Checks.due(part + " has: " + words, true, text.contains(words));
            }
        }
        for (int promise = 1; promise <= 25; promise++) {
            String part = "Promise " + promise;
            Set<String> own = quoted.getOrDefault(part, Set.of());
            Checks.due(part + " has sentences with tests", true, !own.isEmpty());
            Matcher thrown = Pattern.compile("^Throws .*$", Pattern.MULTILINE).matcher(Texts.part(part));
            while (thrown.find()) {
                Checks.due(part + ", a test of: " + thrown.group(), true, own.contains(thrown.group()));
            }
        }
        Checks.due("the promises end", "", Texts.part("Promise 26"));
        Checks.end("SentencesTest");
    }

    private static void addQuoted(Map<String, Set<String>> quoted, String source) {
        int calls = source.split("Checks\\.sentence\\(", -1).length - 1;
        Matcher matcher = QUOTED.matcher(source);
        while (matcher.find()) {
            calls--;
            StringBuilder words = new StringBuilder();
            Matcher literal = Pattern.compile(LITERAL).matcher(matcher.group(2));
            while (literal.find()) {
                words.append(literal.group(1).translateEscapes());
            }
            quoted.computeIfAbsent(matcher.group(1), key -> new HashSet<>()).add(words.toString());
        }
        Checks.due("calls of Checks.sentence that could not be read", 0, calls);
    }
}
