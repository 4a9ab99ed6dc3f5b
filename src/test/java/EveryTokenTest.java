import java.util.ArrayList;
import java.util.Arrays;
import java.util.List;
import java.util.Map;

/** Every token in every place: programs and questions in which one token is put in, put in the place of another one, or taken out. */
final class EveryTokenTest {
    private static final List<String> TOKENS = List.of(("signal let value watch level not prev rise fall once always since and or implies is true false "
        + "if then else old max min sum count at last time step ( ) { } [ ] ; : := = + - * / % < > <= >= <> .. 7 zz a b # .").split(" "));
    /** Between them they hold all that the grammar has. */
    private static final String[] FORMULAS = {
        "is b",
        "not prev a < 2",
        "rise fall true implies false or true and true",
        "once [ 0 .. 3 ] is b since [ 1 .. 2 ] { always [ 0 .. 1 ] false }",
        "once always true since false",
        "count { true } + 1 = last { true } * 2 - - 3",
        "at { true } 1 <= if { true } then 2 else ( 3 / 4 % c )",
        "old time > max step",
        "min 1 >= sum ( 2 )",
        "1 <> 2",
    };
    private static final Map<String, String> NAMES = Map.of("a", "signal", "b", "let", "c", "value", "d", "watch");
    private static final String HEAD = "signal a = - 1 ; let b := true ; value c = 3 ;";

    public static void main(String[] args) {
        changed(HEAD + " watch d : true level 4 ;", EveryTokenTest::program);
        for (String formula : FORMULAS) {
            changed(formula, EveryTokenTest::question);
            changed(formula, EveryTokenTest::watch);
        }
        Checks.end("EveryTokenTest");
    }

    private interface Reading {
        void check(String text);
    }

    private static void changed(String text, Reading reading) {
        List<String> tokens = Arrays.asList(text.split(" "));
        reading.check(text);
        for (int at = 0; at <= tokens.size(); at++) {
            for (String token : TOKENS) {
                List<String> more = new ArrayList<>(tokens);
                more.add(at, token);
                reading.check(String.join(" ", more));
                if (at < tokens.size()) {
                    List<String> other = new ArrayList<>(tokens);
                    other.set(at, token);
                    reading.check(String.join(" ", other));
                }
            }
            reading.check(String.join(" ", tokens.subList(0, at)));
            if (at < tokens.size()) {
                List<String> fewer = new ArrayList<>(tokens);
                fewer.remove(at);
                reading.check(String.join(" ", fewer));
            }
        }
    }

    private static void program(String text) {
        Referee referee = Referee.ofProgram(text);
        Checks.error(text, referee.error, referee.place);
    }

    private static void watch(String text) {
        program(HEAD + " watch d : " + text + " ;");
    }

    private static void question(String text) {
        PastWatch bench = new PastWatch();
        Checks.compile(bench, HEAD + " watch d : true ;");
        Referee referee = Referee.ofQuestion(text, NAMES);
        Checks.askError(bench, text, referee.error, referee.place);
    }
}
