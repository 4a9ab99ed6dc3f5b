/** Promise 4 and 5 by the language: tokens, grammar, depth, and each of the errors at its place. */
final class LanguageTest {
    public static void main(String[] args) {
        rightPrograms();
        tokens();
        grammar();
        depth();
        mostTokens();
        unknownNames();
        namesTwice();
        tooMany();
        numbers();
        noWatch();
        firstOfErrors();
        Checks.end("LanguageTest");
    }

    private static void right(String text) {
        Checks.error(text, 0, -1);
    }

    private static void form(String text, int place) {
        Checks.error(text, 1, place);
    }

    private static void rightPrograms() {
        right("watch w:true;");
        right("\n watch w\n:true ; \n");
        right("signal a=1;signal b=-999999;signal c=- 0;let l:=true;value v=a+b-c*3/2%7;watch w:is l implies v>=1 level 9;");
        right("watch w: not prev rise fall once always {true};");
        right("watch w: once[0..0] always [ 1 .. 1000 ] true since[5..5]false;");
        right("watch w: true implies false or true and true since true implies true;");
        right("watch w: (1) + (2) * -3 = old max min sum 4 and count{true} < last{false};");
        right("watch w: at{true} if{true} then 1 else -2 <> time or step <= 3;");
        right("watch w: 1 < 2level 3;");
        right("watch level1: true; watch signals: is level1;");
        right("watch abcdefgh: true; watch a2345678: is abcdefgh;");
        right("watch w: 000001 = 1 level 000009;");
        right("watch w: prev 1 = 2 or not 1 = 2;");
    }

    private static void tokens() {
        form("watch abcdefghi: true;", 6);
        form("watch w: abcdefghi = 1;", 9);
        form("watch w: 1234567 = 1;", 9);
        form("watch w: 1 = 0000001;", 13);
        form("watchw: true;", 0);
        form("watch w: once1 true;", 15);
        form("watch w: 1 =< 2;", 12);
        form("watch w: 1 => 2;", 12);
        form("watch w: 1 > = 2;", 13);
        form("watch w: 1 < > 2;", 13);
        form("let w: = true;", 5);
        form("let w : = true;", 6);
        form("watch w := true;", 8);
        form("watch w: once[1...2] true;", 17);
        form("watch w: once[1.2] true;", 15);
        form("watch w: once[1 . . 2] true;", 16);
        form("watch W: true;", 6);
        form("watch w: tru\u00e9 = 1;", 12);
        form("watch\tw: true;", 5);
        form("watch w_: true;", 7);
        form("watch w: !true;", 9);
        form("watch 1w: true;", 6);
        form("watch w: 12ab = 1;", 11);
        // Another sign behind the blanks that end the tape.
        form("watch w: true;  #", 16);
    }

    private static void grammar() {
        form("", 0);
        form("   ", 3);
        form(";", 0);
        form("true", 0);
        form("watch", 5);
        form("watch w", 7);
        form("watch w:", 8);
        form("watch w: true", 13);
        form("watch w: true  \n", 16);
        form("watch w: true;;", 14);
        form("watch w: true; level 3;", 15);
        form("watch w: true level;", 19);
        form("watch w: true level -1;", 20);
        form("watch w: true level 1 level 2;", 22);
        form("watch level: true;", 6);
        form("watch time: true;", 6);
        form("signal is = 1;", 7);
        form("signal s := 1;", 9);
        form("signal s = 1 + 1;", 13);
        form("signal s = (1);", 11);
        form("signal s = t;", 11);
        form("signal s = --1;", 12);
        form("signal s = ;", 11);
        form("let l = true;", 6);
        form("value v := 1;", 8);
        form("value v = true;", 10);
        form("value v = 1 < 2;", 12);
        form("let l := 1;", 10);
        form("let l := true level 3;", 14);
        form("watch w: (true);", 10);
        form("watch w: {1} < 2;", 11);
        form("watch w: {1 < 2} < 2;", 17);
        form("watch w: 1 < 2 < 3;", 15);
        form("watch w: true = true;", 14);
        form("watch w: true since true since true;", 25);
        form("watch w: true since[1..2;", 24);
        form("watch w: true since[1.2] true;", 21);
        form("watch w: true since[-1..2] true;", 20);
        form("watch w: once[a..2] true;", 14);
        form("watch w: once[1..2 true;", 19);
        form("watch w: not[1..2] true;", 12);
        form("watch w: prev[1..2] true;", 13);
        form("watch w: true and;", 17);
        form("watch w: and true;", 9);
        form("watch w: true or or true;", 17);
        form("watch w: true implies;", 21);
        form("watch w: is true;", 12);
        form("watch w: is {w};", 12);
        form("watch w: x;", 10);
        form("watch w: x is y;", 11);
        form("watch w: count true = 1;", 15);
        form("watch w: count(1) = 1;", 14);
        form("watch w: count{1} = 1;", 16);
        form("watch w: last{true = 1;", 19);
        form("watch w: at{true} = 1;", 18);
        form("watch w: at{true} + 1 = 1;", 18);
        form("watch w: if{true} 1 else 2 = 1;", 18);
        form("watch w: if{true} then 1 = 1;", 25);
        form("watch w: if{true} then 1 + 2 else 3 = 1;", 25);
        form("watch w: if true then 1 else 2 = 1;", 12);
        form("watch w: old true = 1;", 13);
        form("watch w: 1 + = 1;", 13);
        form("watch w: 1 +* 2 = 1;", 12);
        form("watch w: +1 = 1;", 9);
        form("watch w: (1 = 1;", 12);
        form("watch w: 1) = 1;", 10);
        form("watch w: {true};}", 16);
        form("watch w: {true;", 14);
        form("watch w: true}", 13);
    }

    private static void depth() {
        String[] openers = {"not ", "prev ", "rise ", "fall ", "once ", "always ", "once[1..2] ", "always [3..4] "};
        for (String opener : openers) {
            right("watch w: " + opener.repeat(10) + "true;");
            right("let l := " + opener.repeat(10) + "1 < 2; watch w: is l;");
            form("watch w: " + opener.repeat(11) + "true;", 9 + 10 * opener.length());
            form("watch w: " + opener.repeat(10) + "(1) < 2;", 9 + 10 * opener.length());
        }
        for (String opener : new String[] {"-", "old ", "max ", "min ", "sum "}) {
            right("value v = " + opener.repeat(10) + "1; watch w: true;");
            form("value v = " + opener.repeat(11) + "1; watch w: true;", 10 + 10 * opener.length());
        }
        right("value v = " + "(".repeat(10) + "1" + ")".repeat(10) + "; watch w: true;");
        form("value v = " + "(".repeat(11) + "1" + ")".repeat(11) + "; watch w: true;", 20);
        right("watch w: " + "{".repeat(10) + "true" + "}".repeat(10) + ";");
        form("watch w: " + "{".repeat(11) + "true" + "}".repeat(11) + ";", 19);
        for (String opener : new String[] {"count{1 < ", "last{1 < "}) {
            right("value v = " + opener.repeat(10) + "1" + "}".repeat(10) + "; watch w: true;");
            form("value v = " + opener.repeat(11) + "1" + "}".repeat(11) + "; watch w: true;",
                10 + 10 * opener.length() + opener.indexOf('{'));
        }
        String at = "at{true} ";
        right("value v = " + at.repeat(10) + "1; watch w: true;");
        form("value v = " + at.repeat(11) + "1; watch w: true;", 10 + 10 * at.length() + 2);
        String then = "if{true} then ";
        right("value v = " + then.repeat(10) + "1" + " else 2".repeat(10) + "; watch w: true;");
        form("value v = " + then.repeat(11) + "1" + " else 2".repeat(11) + "; watch w: true;", 10 + 10 * then.length() + 2);
        String orElse = "if{true} then 1 else ";
        right("value v = " + orElse.repeat(10) + "1; watch w: true;");
        form("value v = " + orElse.repeat(11) + "1; watch w: true;", 10 + 10 * orElse.length() + 2);
        // The depth falls again behind brackets, braces and operands.
        right("watch w: " + "not ".repeat(10) + "true and " + "not ".repeat(10) + "true since " + "once ".repeat(10) + "true;");
        right("value v = ((((((((((1)))))))))) + ----------1 - ((((((((((2)))))))))); watch w: true;");
        right("watch w: {{{{{{{{{true}}}}}}}}} and {{{{{{{{{{true}}}}}}}}}};");
        form("watch w: {{{{{{{{{{-1 < 2}}}}}}}}}};", 19);
        form("watch w: not not not not not not not not not not 1 < (2);", 53);
        form("watch w: not not not not not not not not not not is w and 1 < ((((((((((1) + ((1;", 78);
        // What is too deep is refused at the first such token, whatever follows.
        form("watch w: " + "not ".repeat(11), 49);
        form("watch w: " + "{".repeat(11) + "#", 19);
        form("watch w: " + "not ".repeat(10), 49);
    }

    private static void mostTokens() {
        String start = "watch w: true";
        // "watch w : true" has four tokens, " and true" two, ";" one.
        right(start + " and true".repeat(197) + " ; ");
        right("watch ww: not true" + " and true".repeat(197) + ";");
        form("watch w: not not true" + " and true".repeat(197) + ";", 21 + 197 * 9);
        form("watch w: not true" + " and true".repeat(198) + ";", 17 + 197 * 9 + 4 + 1);
        String implied = "watch w: 1=1" + " implies 1=1".repeat(98) + ";";
        right("watch w: 1=1" + " implies 1=1".repeat(98) + " ;");
        form("watch w: not 1=1" + " implies 1=1".repeat(98) + ";;", implied.length() + 4);
        PastWatch bench = new PastWatch();
        Checks.askError(bench, "1" + "+1".repeat(198) + "=1 ", 0, -1);
        Checks.askError(bench, "-1" + "+1".repeat(198) + "=1 ", 0, -1);
        Checks.askError(bench, "--1" + "+1".repeat(198) + "=1 ", 1, 3 + 2 * 198 + 1);
        Checks.askError(bench, "1" + "+1".repeat(199) + "=1 ", 1, 1 + 2 * 199 + 1);
        Checks.askError(bench, "true" + " and true".repeat(199) + " ", 0, -1);
        Checks.askError(bench, "true" + " and true".repeat(199) + " and", 1, 4 + 199 * 9 + 4);
        Checks.askError(bench, "not true" + " or 1=1".repeat(99) + " or", 1, 8 + 99 * 7 + 3);
    }

    private static void unknownNames() {
        Checks.error("watch w: x = 1;", 2, 9);
        Checks.error("watch w: 1 = x;", 2, 13);
        Checks.error("watch w: is x;", 2, 12);
        Checks.error("watch w: is w;", 2, 12);
        Checks.error("let l := is l; watch w: true;", 2, 12);
        Checks.error("value v = old v; watch w: true;", 2, 14);
        Checks.error("let l := is w; watch w: true;", 2, 12);
        Checks.error("let l := s = 1; signal s = 1; watch w: true;", 2, 9);
        Checks.error("signal s = 1; watch w: is s;", 2, 26);
        Checks.error("value v = 1; watch w: is v;", 2, 25);
        Checks.error("let l := true; watch w: l = 1;", 2, 24);
        Checks.error("watch v: true; watch w: v = 1;", 2, 24);
        Checks.error("watch w: count{at{is x} y = 1} = 1;", 2, 21);
        Checks.error("watch w: if{true} then 1 else x = y;", 2, 30);
    }

    private static void namesTwice() {
        Checks.error("signal a = 1; signal a = 1; watch w: true;", 3, 21);
        Checks.error("signal a = 1; let a := true; watch w: true;", 3, 18);
        Checks.error("let a := true; value a = 1; watch w: true;", 3, 21);
        Checks.error("value a = 1; watch a: true;", 3, 19);
        Checks.error("watch a: true; watch a: true;", 3, 21);
        Checks.error("watch a: true; signal a = 1;", 3, 22);
        Checks.error("watch abcdefgh: true; watch abcdefgi: true; watch bcdefgh: true; watch abcdefgh: true;", 3, 71);
    }

    private static String items(String head, String tail, int many) {
        StringBuilder text = new StringBuilder();
        for (int i = 0; i < many; i++) {
            text.append(head).append(i).append(tail);
        }
        return text.toString();
    }

    private static void tooMany() {
        String signals = items("signal s", "=1;", 8);
        String lets = items("let l", ":=true;", 12);
        String values = items("value v", "=1;", 12);
        String watches = items("watch w", ":true;", 12);
        right(signals + lets + values + watches);
        for (String text : new String[] {signals + lets + values + watches, watches + values + lets + signals}) {
            PastWatch bench = Checks.bench(text);
            bench.tick(0);
            for (int i = 0; i < 12; i++) {
                Checks.askError(bench, "is w" + i + " and is l" + i + " and v" + i + " = s" + i % 8, 0, -1);
                Checks.due("answer of the names", true, bench.answer(0));
            }
            Checks.error(text + " signal x = 1;", 4, text.length() + 1);
            Checks.error(text + " let x := true;", 4, text.length() + 1);
            Checks.error(text + " value x = 1;", 4, text.length() + 1);
            Checks.error(text + " watch x: true;", 4, text.length() + 1);
            // The error at the first token goes ahead of the one at the name, and of those behind it.
            Checks.error(text + " watch w1: true;", 4, text.length() + 1);
            Checks.error(text + " let x := y = 1 level;", 1, text.length() + 16);
        }
        Checks.error(signals + "signal x = 1;", 4, signals.length());
        Checks.error(items("watch w", ":true;", 80) + "x", 1, items("watch w", ":true;", 80).length());
        Checks.error(items("watch w", ":true;", 80), 4, watches.length());
    }

    private static void numbers() {
        right("watch w: once[0..0] true;");
        right("watch w: once[1000..1000] true;");
        right("watch w: true since[0..1000] true level 0;");
        Checks.error("watch w: once[1..0] true;", 5, 17);
        Checks.error("watch w: always[0..1001] true;", 5, 19);
        // A bound that is greater than 1000 may be the first one: it stands left of the second.
        Checks.error("watch w: once[1001..1001] true;", 5, 14);
        Checks.error("watch w: once[1001..1000] true;", 5, 14);
        Checks.error("watch w: once[1001..0] true;", 5, 14);
        Checks.error("watch w: always [ 1001 .. 1002 ] true;", 5, 18);
        Checks.error("watch w: once[1000..1001] true;", 5, 20);
        Checks.error("watch w: once[1000..999] true;", 5, 20);
        Checks.error("watch w: true since[999999..999999] true;", 5, 20);
        Checks.error("watch w: x = 1 and once[1001..2] true;", 2, 9);
        Checks.error("watch w: once[1001..2] x = 1;", 5, 14);
        // An error of form behind the bound comes first all the same.
        Checks.error("watch w: once[1001 true;", 1, 19);
        Checks.error("watch w: once[1001..1002 true;", 1, 25);
        Checks.error("watch w: once[1001..] true;", 1, 20);
        Checks.error("watch w: true since [ 7 .. 6 ] true;", 5, 27);
        Checks.error("watch w: true level 10;", 5, 20);
        Checks.error("watch w: true level 999999;", 5, 20);
        Checks.error("watch w: once[1..0] true level 10;", 5, 17);
        Checks.error("watch w: once[1..0] x = 1;", 5, 17);
        Checks.error("watch w: x = 1 and once[1..0] true;", 2, 9);
    }

    private static void noWatch() {
        Checks.error("let l := true;", 6, 14);
        Checks.error("signal s = 1; \n", 6, 15);
        Checks.error("let l := is x;", 2, 12);
    }

    private static void firstOfErrors() {
        Checks.error("watch w: is x; watch v: once[2..1] true; watch w: true", 1, 54);
        Checks.error("watch w: is x; #", 1, 15);
        Checks.error("watch w: once[2..1] is x; watch w: true;", 5, 17);
        Checks.error("signal s = 1; signal s = 2; let l := is x;", 3, 21);
        Checks.error("let l := is x; let l := is y;", 2, 12);
        Checks.error("watch w: true; watch w: is x level 10;", 3, 21);
        Checks.error("watch w: true; watch v: is x level 10;", 2, 27);
        // A name that stood behind one of the words, in an item that is wrong, is the first error all the same.
        Checks.error("watch w: is v; watch v: is w; watch v: true;", 2, 12);
    }
}
