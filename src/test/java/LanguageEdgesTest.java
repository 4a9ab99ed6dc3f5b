/** The sentences of "1. The language" ahead of its errors that name a boundary case: a test for each. */
final class LanguageEdgesTest {
    private static final Class<?> ARGUMENT = IllegalArgumentException.class;
    private static final String[] KEYWORDS = ("signal let value watch level not prev rise fall once always since and or implies is "
        + "true false if then else old max min sum count at last time step").split(" ");

    public static void main(String[] args) {
        tape();
        tokens();
        grammar();
        depth();
        Checks.sentence("1. The language", "A program, and a formula that is asked, has at most 400 tokens", () -> {
            tokensOfPrograms();
            tokensOfQuestions();
            meaningOfMostTokens();
        });
        Checks.end("LanguageEdgesTest");
    }

    private static void right(String text) {
        Checks.error(text, 0, -1);
    }

    private static void form(String text, int place) {
        Checks.error(text, 1, place);
    }

    /** A formula is right as that of a let, of a watch, and where it is asked. */
    private static void rightFormula(String formula) {
        right("let l := " + formula + "; watch w: " + formula + ";");
        Checks.askError(new PastWatch(), formula, 0, -1);
    }

    /** A formula has an error of form at a place in it, wherever it stands. */
    private static void formOfFormula(String formula, int place) {
        form("watch w: " + formula + ";", 9 + place);
        form("let l := " + formula + ";", 9 + place);
        Checks.askError(new PastWatch(), formula, 1, place);
    }

    // ---- the tape

    private static void tape() {
        Checks.sentence("1. The language", "The tape is a row of at most 1800 bytes", LanguageEdgesTest::longestTape);
        Checks.sentence("1. The language", "at first empty", () -> {
            Checks.due("bytes", 0, new PastWatch().count(6));
            form("", 0);
            Checks.askError(new PastWatch(), "", 1, 0);
        });
        Checks.sentence("1. The language", "it is empty behind each of these", LanguageEdgesTest::emptyTape);
    }

    private static void longestTape() {
        String blanks = " ".repeat(1800 - 14);
        right("watch w:" + blanks + " true;");
        right(blanks + "watch w: true;");
        right("watch w: true;" + blanks);
        form("watch w:" + blanks + " true?", 1799);
        form("watch w:" + blanks + "  true", 1800);
        form("watch w: true;" + blanks.substring(1) + "?", 1799);
        Checks.error("signal s = 1; " + " ".repeat(1800 - 14), 6, 1800);
        PastWatch bench = Checks.bench("watch w: step < 1;");
        bench.tick(0);
        bench.tick(0);
        Checks.askError(bench, " ".repeat(1800 - 8) + "step < 1", 0, -1);
        Checks.due("answer", true, bench.answer(0));
        Checks.due("answer", false, bench.answer(1));
        Checks.askError(bench, " ".repeat(1800 - 8) + "step < w", 2, 1799);
        Checks.askError(bench, " ".repeat(1800 - 8) + "step <= ", 1, 1800);
    }

    private static void emptyTape() {
        PastWatch bench = new PastWatch();
        Checks.due("compile", 0, Checks.compile(bench, "watch w: true; watch x: true;"));
        isEmpty(bench);
        Checks.due("compile of an error", 2, Checks.compile(bench, "watch w: is x;"));
        isEmpty(bench);
        Checks.due("compile of an error of form", 1, Checks.compile(bench, "watch w: true; ?"));
        isEmpty(bench);
        Checks.due("ask", 0, Checks.ask(bench, "true"));
        isEmpty(bench);
        Checks.due("ask of an error", 1, Checks.ask(bench, "true true"));
        isEmpty(bench);
        Checks.due("ask of an empty tape", 1, bench.ask());
        isEmpty(bench);
        Checks.due("compile of an empty tape", 1, bench.compile());
        isEmpty(bench);
        // Nothing of what stood there is read again behind what is new.
        Checks.due("compile", 0, Checks.compile(bench, "watch w: true; watch x: true; watch y: true;"));
        Checks.due("compile of less", 0, Checks.compile(bench, "watch w: true;"));
        Checks.due("watches", 1, bench.count(3));
    }

    private static void isEmpty(PastWatch bench) {
        Checks.due("bytes", 0, bench.count(6));
        Checks.refuses("trim(1)", ARGUMENT, () -> bench.trim(1));
    }

    // ---- tokens

    private static void tokens() {
        Checks.sentence("1. The language", "Blanks (32) and line ends (10) can stand between tokens, at the beginning and at the end", LanguageEdgesTest::blanks);
        Checks.sentence("1. The language", "have to stand between two tokens that would otherwise be read as one", LanguageEdgesTest::neededBlanks);
        Checks.sentence("1. The language", "The longest possible token is always read", LanguageEdgesTest::longestTokens);
        Checks.sentence("1. The language", "A word: a letter a to z, followed by letters a to z and digits", LanguageEdgesTest::signsOfWords);
        Checks.sentence("1. The language", "at most 8 bytes in all", LanguageEdgesTest::longestWords);
        Checks.sentence("1. The language", "A number: 1 to 6 digits", LanguageEdgesTest::lengthsOfNumbers);
        Checks.sentence("1. The language", "Symbols: ( ) { } [ ] ; : := = + - * / % < > <= >= <> ..", LanguageEdgesTest::symbols);
        Checks.sentence("1. The language", "All other words are names", LanguageEdgesTest::names);
    }

    private static void blanks() {
        String[] parts = {"signal", "s", "=", "-", "1", ";", "let", "l", ":=", "s", "<=", "(", "1", ")", ";", "value", "v", "=", "old", "-", "s", "%", "2", ";",
            "watch", "w", ":", "once", "[", "0", "..", "9", "]", "is", "l", "since", "{", "v", "<>", "0", "}", "level", "3", ";"};
        right(String.join(" ", parts));
        right(String.join("\n", parts));
        right("  " + String.join("   ", parts) + "  ");
        right("\n\n" + String.join("\n \n", parts) + "\n\n");
        for (int sign = 0; sign < 256; sign++) {
            boolean isBlank = sign == 32 || sign == 10;
            Checks.error("watch w: true;" + (char) sign, isBlank ? 0 : 1, isBlank ? -1 : 14);
        }
        for (char sign : new char[] {0, 9, 11, 12, 13, 31, 33, 127, 160}) {
            form(sign + "watch w: true;", 0);
            form("watch" + sign + "w: true;", 5);
            form("watch w" + sign + ": true;", 7);
            form("watch w: true" + sign + ";", 13);
        }
    }

    private static void neededBlanks() {
        form("watchw: true;", 0);
        form("signals = 1;", 0);
        form("watch w: nottrue;", 16);
        Checks.error("watch w: not1 = 1;", 2, 9);
        right("watch w: not 1 = 1;");
        form("watch w: 1 2 = 1;", 11);
        right("watch w: 12 = 1;");
        form("watch w: true level5;", 14);
        right("watch w: true level 5;");
        form("watch w: 1 < = 2;", 13);
        form("watch w: 1 > = 2;", 13);
        form("watch w: 1 < > 2;", 13);
        form("let l : = true;", 6);
        form("watch w: once [1. .2] true;", 16);
        right("watch w: 1 <= 2 and 1 >= 2 and 1 <> 2;");
        // Between others none are needed: a number ends where a letter stands.
        right("watch w:1<2level 3;watch x:1=2or 3=4;");
        right("watch w:once[1..2]true since{1<-2};");
    }

    private static void longestTokens() {
        // := is one token, so that it is no ":" with a "=" behind it.
        form("watch w:= true;", 7);
        form("watch w: 1<>=2;", 12);
        form("watch w: 1<==2;", 12);
        form("watch w: 1=<2;", 11);
        form("watch w: 1><2;", 11);
        form("watch w: once[1...2] true;", 17);
        form("watch w: once[1....2] true;", 17);
        right("watch w: 1<-2 and 1=-2 and 1<>-2 and 1<=-2;");
        // Words that begin with a keyword are names, and so are those that go on with digits.
        right("value notold = 1; watch is1: notold = 1; watch w: is is1;");
        Checks.error("watch w: true1 = 1;", 2, 9);
        right("watch w: 1=2and 3=4;");
        form("watch w: 1=2and3=4;", 12);
    }

    private static void signsOfWords() {
        // What stands ahead of and behind a to z and 0 to 9, and capitals, belongs to no word.
        for (char sign : new char[] {'`', '{', '/', ':', '@', '[', 'A', 'Z', '_', 225, 250}) {
            form("watch " + sign + "b: true;", 6);
        }
        for (char sign : new char[] {'`', '{', '/', '@', '[', 'A', 'Z', '_', 225, 250}) {
            form("watch b" + sign + ": true;", 7);
        }
        for (char sign = 'a'; sign <= 'z'; sign++) {
            right("watch " + sign + ": true; watch x" + sign + sign + ": true;");
        }
        for (char sign = '0'; sign <= '9'; sign++) {
            right("watch w" + sign + ": true; watch x" + sign + sign + "x: is w" + sign + ";");
            form("watch " + sign + "w: true;", 6);
        }
    }

    private static void longestWords() {
        right("watch w: true;");
        right("watch abcdefgh: true; watch w: is abcdefgh;");
        right("watch a1234567: true; watch w: is a1234567;");
        form("watch abcdefghi: true;", 6);
        form("watch a12345678: true;", 6);
        form("watch abcdefghijklmnopqrstuvwxyz: true;", 6);
        form("watch w: is abcdefghi;", 12);
        form("watch w: abcdefghi = 1;", 9);
        // Names of eight bytes are told from one another by each byte.
        String all = "abcdefgh";
        for (int i = 0; i < 8; i++) {
            String other = all.substring(0, i) + "z" + all.substring(i + 1);
            right("watch " + all + ": true; watch " + other + ": true;");
            Checks.error("watch " + all + ": is " + other + ";", 2, 19);
        }
        right("watch a: true; watch aa: true; watch aaaaaaa: true; watch aaaaaaaa: true;");
    }

    private static void lengthsOfNumbers() {
        PastWatch bench = Checks.bench("signal s = 999999; signal t = -999999; signal u = 000001; signal v = 0; value x = 999999; value y = 9; watch w: true;");
        Checks.due("s", 999999L, bench.set(0, 0));
        Checks.due("t", -999999L, bench.set(1, 0));
        Checks.due("u", 1L, bench.set(2, 0));
        Checks.due("v", 0L, bench.set(3, 0));
        bench.tick(0);
        Checks.due("x", 999999L, bench.value(0, 0));
        Checks.due("y", 9L, bench.value(1, 0));
        form("signal s = 1000000;", 11);
        form("signal s = -1000000;", 12);
        form("signal s = 0000001;", 11);
        form("watch w: 1234567 = 1;", 9);
        form("watch w: 99999999999999999999 = 1;", 9);
        form("watch w: once[0000000..2] true;", 14);
        form("watch w: once[0..0000002] true;", 17);
        form("watch w: true level 0000005;", 20);
        right("watch w: once[000000..001000] true level 000009;");
    }

    private static void symbols() {
        rightFormula("(1)+(2)-3*4/5%6=7 and{1<2}or 1>2 or 1<=2 or 1>=2 or 1<>2 or once[1..2]true");
        right("signal s=-1;let l:=true;value v=1;watch w:true;");
        for (String none : new String[] {"!", "\"", "#", "$", "&", "'", ",", ".", "?", "@", "\\", "^", "_", "`", "|", "~"}) {
            formOfFormula("1 = 1 " + none, 6);
            formOfFormula(none + " 1 = 1", 0);
        }
    }

    private static void names() {
        for (String word : KEYWORDS) {
            form("watch " + word + ": true;", 6);
            form("let " + word + " := true;", 4);
            form("value " + word + " = 1;", 6);
            form("signal " + word + " = 1;", 7);
            form("watch w: is " + word + ";", 12);
            String shorter = word.substring(0, word.length() - 1);
            if (!shorter.equals("i")) {
                right("watch " + shorter + ": true; watch w: is " + shorter + ";");
            }
            if (word.length() < 8) {
                right("watch " + word + "x: true; watch " + word + "1: is " + word + "x;");
            }
        }
    }

    // ---- the grammar

    private static void grammar() {
        Checks.sentence("1. The language", "[ x ] means x or nothing, { x } means x any number of times, also none", () -> {
            right("signal s=1;signal t=-1;watch w:once true since true level 5;watch v:once[1..2]true since[1..2]true;");
            rightFormula("1=1");
            rightFormula("1+1-1*1/1%1=1 and true or true implies true implies true");
            rightFormula("1" + "+1".repeat(60) + "=1" + " and true".repeat(30));
        });
        Checks.sentence("1. The language", "program = item { item }", () -> {
            form("", 0);
            form(" \n ", 3);
            right("watch w: true;");
            right("watch w: true; let l := true; watch v: true; signal s = 1;");
        });
        Checks.sentence("1. The language", "whole = [ \"-\" ] number", LanguageEdgesTest::wholes);
        Checks.sentence("1. The language", "\"watch\" name \":\" formula [ \"level\" number ] \";\"", () -> {
            right("watch w: true; watch v: true level 0; watch u: true level 9;");
            form("watch w: true level;", 19);
            form("watch w: true level 1 level 2;", 22);
            form("watch w: true 1;", 14);
            form("watch w: level 1;", 9);
            form("let l := true level 1;", 14);
            form("value v = 1 level 1;", 12);
        });
        Checks.sentence("1. The language", "formula = either [ \"implies\" formula ]", () -> rows("implies"));
        Checks.sentence("1. The language", "either = both { \"or\" both }", () -> rows("or"));
        Checks.sentence("1. The language", "both = since { \"and\" since }", () -> rows("and"));
        Checks.sentence("1. The language", "since = one [ \"since\" [ bounds ] one ]", () -> {
            rightFormula("true since false");
            rightFormula("true since [ 0 .. 1 ] false");
            formOfFormula("true since false since true", 17);
            formOfFormula("true since [0..1] [0..1] false", 18);
            formOfFormula("true since )", 11);
        });
        Checks.sentence("1. The language", "( \"once\" | \"always\" ) [ bounds ] one", () -> {
            rightFormula("once true and always true");
            rightFormula("once [1..2] true and always [1..2] true");
            formOfFormula("once [1..2] [1..2] true", 12);
            formOfFormula("not [1..2] true", 4);
            formOfFormula("prev [1..2] true", 5);
            formOfFormula("rise [1..2] true", 5);
            formOfFormula("fall [1..2] true", 5);
        });
        Checks.sentence("1. The language", "bounds = \"[\" number \"..\" number \"]\"", LanguageEdgesTest::bounds);
        Checks.sentence("1. The language", "expression = product { ( \"+\" | \"-\" ) product }", LanguageEdgesTest::sums);
        Checks.sentence("1. The language", "product = factor { ( \"*\" | \"/\" | \"%\" ) factor }", LanguageEdgesTest::products);
        Checks.sentence("1. The language", "\"{\" formula \"}\" | \"true\" | \"false\" | \"is\" name | expression compare expression", LanguageEdgesTest::ones);
        Checks.sentence("1. The language", "factor = number | name | \"time\" | \"step\" | \"(\" expression \")\"", LanguageEdgesTest::factors);
        Checks.sentence("1. The language", "( \"count\" | \"last\" ) \"{\" formula \"}\" | \"at\" \"{\" formula \"}\" factor | "
            + "\"if\" \"{\" formula \"}\" \"then\" factor \"else\" factor", LanguageEdgesTest::factorsOfFormulas);
        Checks.sentence("1. The language", "Operators of one level group from the left (implies from the right)", LanguageEdgesTest::groups);
    }

    private static void wholes() {
        PastWatch bench = Checks.bench("signal a = 0; signal b = -0; signal c = - 7; signal d = 7; watch w: true;");
        Checks.due("a", 0L, bench.set(0, 1));
        Checks.due("b", 0L, bench.set(1, 1));
        Checks.due("c", -7L, bench.set(2, 1));
        Checks.due("d", 7L, bench.set(3, 1));
        form("signal s = --7;", 12);
        form("signal s = +7;", 11);
        form("signal s = -;", 12);
        form("signal s = ;", 11);
        form("signal s = (7);", 11);
        form("signal s = 7 - 1;", 13);
    }

    private static void rows(String word) {
        for (int many = 0; many <= 20; many++) {
            rightFormula("true" + (" " + word + " true").repeat(many));
        }
        formOfFormula("true " + word + " " + word + " true", 6 + word.length());
        formOfFormula(word + " true", 0);
        formOfFormula("true true", 5);
        form("watch w: true " + word + ";", 14 + word.length());
    }

    private static void bounds() {
        rightFormula("once [0..0] true");
        rightFormula("once [1000..1000] true");
        formOfFormula("once [] true", 6);
        formOfFormula("once [1] true", 7);
        formOfFormula("once [1..] true", 9);
        formOfFormula("once [..1] true", 6);
        formOfFormula("once [1..2..3] true", 10);
        formOfFormula("once [-1..2] true", 6);
        formOfFormula("once [1..-2] true", 9);
        formOfFormula("once [a..2] true", 6);
        formOfFormula("once [1..2 true", 11);
        formOfFormula("once 1..2] true", 6);
    }

    private static void sums() {
        for (String sign : new String[] {"+", "-"}) {
            for (int many = 0; many <= 20; many++) {
                rightFormula("1" + (sign + "1").repeat(many) + " = 1");
            }
            formOfFormula("1 " + sign + " = 1", 4);
        }
        formOfFormula("+1 = 1", 0);
        formOfFormula("1 ++ 1 = 1", 3);
        rightFormula("1 -- 1 = 1");
    }

    private static void products() {
        for (String sign : new String[] {"*", "/", "%"}) {
            for (int many = 0; many <= 20; many++) {
                rightFormula("1" + (sign + "1").repeat(many) + " = 1");
            }
            formOfFormula("1 " + sign + " = 1", 4);
            formOfFormula(sign + " 1 = 1", 0);
            formOfFormula("1 " + sign + sign + " 1 = 1", 3);
        }
    }

    private static void ones() {
        for (String compare : new String[] {"=", "<>", "<", ">", "<=", ">="}) {
            rightFormula("1 " + compare + " 2");
            formOfFormula("1 " + compare + " 2 " + compare + " 3", 5 + compare.length());
            formOfFormula("1 " + compare + " true", 3 + compare.length());
            formOfFormula(compare + " 2", 0);
            formOfFormula("true " + compare + " 2", 5);
        }
        rightFormula("{true} and {{false}}");
        formOfFormula("{}", 1);
        formOfFormula("{true and", 9);
        formOfFormula("{true)", 5);
        formOfFormula("{1 = 1} = 1", 8);
        formOfFormula("(true)", 1);
        formOfFormula("1", 1);
        formOfFormula("is", 2);
        formOfFormula("is 1", 3);
        formOfFormula("is {w}", 3);
        formOfFormula("is is", 3);
        formOfFormula("not", 3);
        formOfFormula("not and true", 4);
    }

    private static void factors() {
        rightFormula("time + step * (1) = (time) % (step)");
        formOfFormula("() = 1", 1);
        formOfFormula("(1 = 1", 3);
        formOfFormula("(1} = 1", 2);
        formOfFormula("{1) = 1}", 2);
        formOfFormula("1) = 1", 1);
        formOfFormula("1 2 = 1", 2);
        formOfFormula("old = 1", 4);
        formOfFormula("max {true} = 1", 4);
        formOfFormula("min not 1 = 1", 4);
        formOfFormula("sum sum = 1", 8);
        formOfFormula("- = 1", 2);
        formOfFormula("time time = 1", 5);
        formOfFormula("level = 1", 0);
    }

    private static void factorsOfFormulas() {
        for (String word : new String[] {"count", "last", "at", "if"}) {
            int length = word.length();
            formOfFormula(word + " true = 1", length + 1);
            formOfFormula(word + " = 1", length + 1);
            formOfFormula(word + " 1 = 1", length + 1);
            formOfFormula(word + "(1) = 1", length);
            formOfFormula(word + "{} = 1", length + 1);
            formOfFormula(word + "{1} = 1", length + 2);
            formOfFormula(word + "{true = 1", length + 6);
        }
        rightFormula("count{true} = last{false}");
        formOfFormula("count{true} 1 = 1", 12);
        formOfFormula("last{true} then 1 = 1", 11);
        rightFormula("at{true} 1 = at{true} at{true} 1");
        formOfFormula("at{true} = 1", 9);
        formOfFormula("at{true} then 1 = 1", 9);
        rightFormula("if{true} then 1 else 2 = if{true} then if{true} then 1 else 2 else 3");
        formOfFormula("if{true} 1 else 2 = 1", 9);
        formOfFormula("if{true} then else 2 = 1", 14);
        formOfFormula("if{true} then 1 = 1", 16);
        formOfFormula("if{true} then 1 else = 1", 21);
        formOfFormula("if{true} else 1 then 2 = 1", 9);
        formOfFormula("if{true} then 1 + 1 else 2 = 1", 16);
    }

    private static void number(String expression, long want) {
        PastWatch bench = Checks.bench("value v = " + expression + "; watch w: true;");
        bench.tick(0);
        Checks.due(expression, want, bench.value(0, 0));
    }

    private static void groups() {
        number("10 - 4 - 3", 3);
        number("10 - 4 + 3", 9);
        number("10 - 4 - 3 - 2", 1);
        number("100 / 10 / 5", 2);
        number("100 / 10 * 5", 50);
        number("100 % 30 % 7", 3);
        number("100 % 30 * 2", 20);
        number("7 * 9 / 10 % 4", 2);
        number("20 - 2 * 3 - 1", 13);
        PastWatch bench = Checks.bench("watch a: false implies true implies false; watch b: {false implies true} implies false;"
            + "watch c: true implies false implies false; watch d: true or false and false; watch e: true or true implies false;");
        bench.tick(0);
        boolean[] want = {true, false, true, true, false};
        for (int watch = 0; watch < want.length; watch++) {
            Checks.due("watch " + watch, want[watch], bench.watch(watch, 0));
        }
    }

    // ---- depth and length

    private static void depth() {
        Checks.sentence("1. The language", "It is 0 at the beginning of the formula or expression of an item", () -> {
            right(("watch a: " + "{".repeat(10) + "true" + "}".repeat(10) + ";")
                + ("let b := " + "not ".repeat(10) + "true;")
                + ("value c = " + "(".repeat(10) + "1" + ")".repeat(10) + ";")
                + ("value d = " + "-".repeat(10) + "1;")
                + ("watch e: " + "once ".repeat(10) + "true;"));
            Checks.askError(new PastWatch(), "{".repeat(10) + "true" + "}".repeat(10), 0, -1);
            Checks.askError(new PastWatch(), "{".repeat(11) + "true" + "}".repeat(11), 1, 10);
        });
        Checks.sentence("1. The language", "1 greater between \"(\" and its \")\"", () -> {
            deepFactors("(", ")", 0);
            right("value v = " + "(".repeat(10) + "1" + ")".repeat(10) + "+" + "(".repeat(10) + "1" + ")".repeat(10) + "; watch w: true;");
        });
        Checks.sentence("1. The language", "between \"{\" and its \"}\"", LanguageEdgesTest::deepBraces);
        Checks.sentence("1. The language", "for each operand that follows not, prev, rise, fall, once, always", LanguageEdgesTest::deepOperands);
        Checks.sentence("1. The language", "a \"-\" in front, old, max, min, sum", LanguageEdgesTest::deepSigns);
        Checks.sentence("1. The language", "the \"}\" of at, then and else", LanguageEdgesTest::deepBranches);
        Checks.sentence("1. The language", "It may be at most 10", LanguageEdgesTest::deepMixtures);
    }

    /** An opener of factors ten times is right, and the eleventh one has the error. */
    private static void deepFactors(String opener, String closer, int sign) {
        for (int many = 1; many <= 10; many++) {
            rightFormula(opener.repeat(many) + "1" + closer.repeat(many) + " = 1");
        }
        formOfFormula(opener.repeat(11) + "1" + closer.repeat(11) + " = 1", 10 * opener.length() + sign);
        right("value v = " + opener.repeat(10) + "1" + closer.repeat(10) + "; watch w: true;");
        form("value v = " + opener.repeat(11) + "1" + closer.repeat(11) + "; watch w: true;", 10 + 10 * opener.length() + sign);
    }

    private static void deepBraces() {
        for (int many = 1; many <= 10; many++) {
            rightFormula("{".repeat(many) + "true" + "}".repeat(many));
        }
        formOfFormula("{".repeat(11) + "true" + "}".repeat(11), 10);
        rightFormula("{".repeat(10) + "true" + "}".repeat(10) + " and " + "{".repeat(10) + "true" + "}".repeat(10));
        deepFactors("count {1 = ", "}", 6);
        deepFactors("last {1 = ", "}", 5);
    }

    private static void deepOperands() {
        for (String opener : new String[] {"not ", "prev ", "rise ", "fall ", "once ", "always ", "once [1..2] ", "always [1..2] "}) {
            for (int many = 1; many <= 10; many++) {
                rightFormula(opener.repeat(many) + "true");
            }
            formOfFormula(opener.repeat(11) + "true", 10 * opener.length());
            rightFormula(opener.repeat(10) + "1 = 1");
            formOfFormula(opener.repeat(10) + "{true}", 10 * opener.length());
            formOfFormula(opener.repeat(10) + "(1) = 1", 10 * opener.length());
            formOfFormula(opener.repeat(10) + "1 = -1", 10 * opener.length() + 4);
        }
        // Neither is, and, or, since, implies nor a compare make it deeper.
        rightFormula("not ".repeat(10) + "true since " + "not ".repeat(10) + "true and " + "not ".repeat(10) + "1 = 1");
        rightFormula("true implies ".repeat(12) + "true");
    }

    private static void deepSigns() {
        for (String opener : new String[] {"-", "- ", "old ", "max ", "min ", "sum "}) {
            deepFactors(opener, "", 0);
        }
        // A "-" between two products is none in front.
        rightFormula("1" + " - 1".repeat(20) + " = 1");
        right("value v = ----------1 - ----------1; watch w: true;");
        form("value v = ----------1 - -----------1; watch w: true;", 34);
    }

    private static void deepBranches() {
        deepFactors("at {true} ", "", 3);
        deepFactors("if {true} then ", " else 1", 3);
        deepFactors("if {true} then 1 else ", "", 3);
        String nine = "-".repeat(9);
        right("value v = " + nine + "at {true} 1; watch w: true;");
        right("value v = " + nine + "if {true} then 1 else 1; watch w: true;");
        form("value v = " + nine + "at {true} -1; watch w: true;", 29);
        form("value v = " + nine + "if {true} then -1 else 1; watch w: true;", 34);
        form("value v = " + nine + "if {true} then 1 else -1; watch w: true;", 41);
        form("value v = " + nine + "if {not true} then 1 else 1; watch w: true;", 23);
        form("value v = " + nine + "at {not true} 1; watch w: true;", 23);
    }

    private static void deepMixtures() {
        String mixed = "not prev rise fall {once always ";
        rightFormula(mixed + "-old (1) = 1}");
        formOfFormula(mixed + "-old (-1) = 1}", mixed.length() + 6);
        formOfFormula(mixed + "-old ((1)) = 1}", mixed.length() + 6);
        rightFormula(mixed + "max min sum 1 = 1}");
        formOfFormula(mixed + "max min sum old 1 = 1}", mixed.length() + 12);
        rightFormula(mixed + "count {at {true} 1 = if {true} then 1 else 1} = last {1 = (1)}}");
        formOfFormula(mixed + "count {at {not {true}} 1 = 1} = 1}", mixed.length() + 15);
        // It is lower again behind each of them.
        rightFormula("{{{{{{{{{{true}}}}}}}}}} and not {{{{{{{{{true}}}}}}}}} and not not not not not not not not not {true}");
    }

    private static void tokensOfPrograms() {
        // "watch w : not true" is five tokens, " or true" are two, ";" is one.
        String row = " or true".repeat(197);
        String full = "watch w: not true" + row + ";";
        right("watch w: true" + row + ";");
        right(full);
        right(full + " \n ");
        for (String more : new String[] {"watch", ";", "x", "#", "1", "1234567", "abcdefghi"}) {
            form(full + " " + more, full.length() + 1);
        }
        form("watch w: not not true" + row + ";", full.length() - 1 + 4);
        // The end of the tape behind 400 tokens is no token.
        form("watch w: not not true" + row, full.length() - 1 + 4);
        // An error ahead of the 401st token is the first one.
        form("watch w: not true" + row + " true;", full.length());
        // Many short tokens count as well as few long ones.
        String small = "watch w:-1=1" + " or 1=1".repeat(98) + ";";
        right(small.replace("-1", "1"));
        right(small);
        form(small + "watch", small.length());
        form(small.replace("-1", "--1"), small.length());
    }

    private static void tokensOfQuestions() {
        String row = " or true".repeat(199);
        question("true" + row, 0, -1);
        question("not true" + row, 0, -1);
        question("not true" + row + "  \n ", 0, -1);
        question("not not true" + row, 1, 8 + row.length());
        question("not true" + row + " or", 1, 8 + row.length() + 1);
        question("not true" + row + " #", 1, 8 + row.length() + 1);
        question("true" + row + " or", 1, 4 + row.length() + 3);
    }

    /** All of them are reckoned, the last ones too. */
    private static void meaningOfMostTokens() {
        PastWatch bench = Checks.bench("value v=1" + "+1".repeat(195) + ";watch w:true;");
        Checks.due("tick", 0, bench.tick(0));
        Checks.due("the sum of 196", 196L, bench.value(0, 0));
        Checks.askError(bench, "-1" + "+1".repeat(197) + "=196 ", 0, -1);
        Checks.due("the sum of 196, asked", true, bench.answer(0));
        PastWatch other = Checks.bench("watch w:-1=1" + " or 1=2".repeat(97) + " or step=1;");
        Checks.due("tick at the step 0", 1, other.tick(0));
        Checks.due("tick at the step 1", 0, other.tick(0));
    }

    private static void question(String text, int error, int place) {
        Checks.askError(Checks.bench("signal s = 1; watch w: s = 1;"), text, error, place);
    }
}
