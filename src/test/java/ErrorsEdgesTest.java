/** The sentences of the errors 1 to 6 and their places: a test for each. */
final class ErrorsEdgesTest {
    private static final String[] SORTS = {"signal", "let", "value", "watch"};

    public static void main(String[] args) {
        errorsOfForm();
        errorsOfMeaning();
        Checks.end("ErrorsEdgesTest");
    }

    private static void form(String text, int place) {
        Checks.error(text, 1, place);
    }

    /** An item of one of the four sorts. */
    private static String item(String sort, String name) {
        switch (sort) {
            case "signal": return "signal " + name + "=1;";
            case "let": return "let " + name + ":=true;";
            case "value": return "value " + name + "=1;";
            default: return "watch " + name + ":true;";
        }
    }

    private static String items(String sort, int many) {
        StringBuilder text = new StringBuilder();
        for (int i = 0; i < many; i++) {
            text.append(item(sort, sort.charAt(0) + "" + i));
        }
        return text.toString();
    }

    private static int mostOf(String sort) {
        return sort.equals("signal") ? 8 : 12;
    }

    // ---- errors of form

    private static void errorsOfForm() {
        Checks.sentence("1. The language", "Error 1: the first token with which the tokens so far are not the beginning of a program", ErrorsEdgesTest::firstToken);
        Checks.sentence("1. The language", "(of ask: of a formula)", ErrorsEdgesTest::ofQuestions);
        Checks.sentence("1. The language", "a byte with which no token begins", ErrorsEdgesTest::badBytes);
        Checks.sentence("1. The language", "a word or number that is too long", ErrorsEdgesTest::tooLong);
        Checks.sentence("1. The language", "the end of the tape (at its length)", ErrorsEdgesTest::endOfTape);
        Checks.sentence("1. The language", "the token behind which the depth would be 11 (at \"(\" or \"{\" or the word or sign ahead of the operand; "
            + "for at at its \"}\")", ErrorsEdgesTest::tooDeep);
        Checks.sentence("1. The language", "the token that would be the 401st", ErrorsEdgesTest::tooManyTokens);
        Checks.sentence("1. The language", "The position is that of its first byte", ErrorsEdgesTest::firstByte);
    }

    private static void firstToken() {
        // The first of two, whatever the second one is.
        form("watch w true; let l true;", 8);
        form("watch w: true true; #", 14);
        form("watch w: # abcdefghi", 9);
        form("watch w: abcdefghi #", 9);
        form("watch w: 1 + + #", 13);
        form("let watch := true; watch w: true", 4);
        // The beginning may be right for long, and the token that ends it be far behind what caused it.
        form("watch w: {{{1 = 1}} and (1) = 1;", 31);
        form("value v = if {1 = 1} then (2 + 3 else 1; watch w: true;", 33);
        form("watch w: {1 = 1} = 1;", 17);
        form("watch w: (1 = 1);", 12);
        form("watch w: 1 = 1 = 1;", 15);
        form("watch w: 1 + true;", 13);
        form("watch w: true + 1;", 14);
        form("value v = 1 = 1; watch w: true;", 12);
        form("signal s := 1; watch w: true;", 9);
        form("let l = true; watch w: true;", 6);
        form("let l : true; watch w: true;", 6);
        form("value v := 1; watch w: true;", 8);
        form("watch w := true;", 8);
        form("watch w = true;", 8);
        form("level 5;", 0);
        form("w: true;", 0);
        form("watch w: true; ; watch v: true;", 15);
        form("watch w: true level x;", 20);
        form("watch w: true level true;", 20);
    }

    private static void ofQuestions() {
        PastWatch bench = Checks.bench("signal s = 1; let l := s = 1; watch w: is l;");
        Checks.askError(bench, "watch x: true;", 1, 0);
        Checks.askError(bench, "signal x = 1;", 1, 0);
        Checks.askError(bench, "true;", 1, 4);
        Checks.askError(bench, "true level 3", 1, 5);
        Checks.askError(bench, "s", 1, 1);
        Checks.askError(bench, "s + 1 ", 1, 6);
        Checks.askError(bench, "true }", 1, 5);
        Checks.askError(bench, "1 = 1 )", 1, 6);
        Checks.askError(bench, "is l is w", 1, 5);
        Checks.askError(bench, "l", 1, 1);
        Checks.askError(bench, "is l", 0, -1);
        Checks.error("is l", 1, 0);
        Checks.error("true", 1, 0);
    }

    /** Behind "true" a byte is a blank, a part of the word, its end, or of no use there. */
    private static void badBytes() {
        for (int sign = 0; sign < 256; sign++) {
            boolean isBlank = sign == ' ' || sign == '\n';
            boolean isOfWord = sign >= 'a' && sign <= 'z' || sign >= '0' && sign <= '9';
            String text = "watch w: true" + (char) sign + ";";
            if (isBlank) {
                Checks.error(text, 0, -1);
            } else {
                // With a part of the word it is a name, with ";" the second ";" is wrong.
                form(text, isOfWord || sign == ';' ? 14 : 13);
            }
            boolean isToken = isBlank || isOfWord || "(){}[];:=+-*/%<>".indexOf(sign) >= 0;
            if (!isToken && sign != '.') {
                form((char) sign + "watch w: true;", 0);
                form("watch w: true; " + (char) sign, 15);
                form("watch w: once[0." + (char) sign + "9] true;", 15);
                Checks.askError(new PastWatch(), "1 = 1 or " + (char) sign, 1, 9);
            }
        }
        form("watch w: once[0.", 15);
        form("watch w: once[0.9] true;", 15);
    }

    private static void tooLong() {
        form("watch abcdefghi: true;", 6);
        form("watch w: is abcdefghi;", 12);
        form("watch w: true; abcdefghi", 15);
        form("abcdefghi", 0);
        form("watch w: 1 = 1000000;", 13);
        form("watch w: 1234567", 9);
        form("watch w: true level 0000001;", 20);
        Checks.askError(new PastWatch(), "alwaysalways true", 1, 0);
        Checks.askError(new PastWatch(), "true or 1 = 0000000", 1, 12);
        // No part of it is read as a token of its own.
        form("watch w: implies12 = 1;", 9);
        form("watch w: 9999991 = 1;", 9);
        Checks.error("watch w: implies1 = 1;", 2, 9);
        Checks.error("watch w: 999999 = 1;", 0, -1);
    }

    private static void endOfTape() {
        String[] tokens = {"signal", "s", "=", "-", "1", ";", "let", "l", ":=", "once", "[", "0", "..", "9", "]", "s", "=", "1", "since", "{", "true", "}", ";",
            "value", "v", "=", "if", "{", "is", "l", "}", "then", "(", "at", "{", "true", "}", "s", ")", "else", "-", "old", "count", "{", "true", "}", ";",
            "watch", "w", ":", "not", "is", "l", "implies", "v", "<", "1", "level", "3", ";"};
        StringBuilder text = new StringBuilder();
        for (int i = 0; i < tokens.length; i++) {
            // Cut ahead of this token: the error is at the length, with blanks behind it too.
            boolean isItemEnd = i > 0 && tokens[i - 1].equals(";");
            int error = isItemEnd ? 6 : 1;
            String cut = text.toString();
            Checks.error(cut, error, cut.length());
            Checks.error(cut + "\n  ", error, cut.length() + 3);
            text.append(tokens[i]).append(i % 3 == 0 ? "\n" : " ");
        }
        Checks.error(text.toString(), 0, -1);
        Checks.error("", 1, 0);
        Checks.error(" ", 1, 1);
        PastWatch bench = new PastWatch();
        Checks.askError(bench, "", 1, 0);
        Checks.askError(bench, "  \n", 1, 3);
        Checks.askError(bench, "true and", 1, 8);
        Checks.askError(bench, "true and ", 1, 9);
        Checks.askError(bench, "{true", 1, 5);
        Checks.askError(bench, "1 =", 1, 3);
        Checks.askError(bench, "once[1..2]", 1, 10);
        // At its length, not at the length it had before it was trimmed.
        Checks.type(bench, "true and true and true");
        bench.trim(8);
        Checks.due("ask of a trimmed tape", 1, bench.ask());
        Checks.due("errorAt of a trimmed tape", 8, bench.errorAt());
    }

    private static void tooDeep() {
        String ten = "not ".repeat(10);
        for (String word : new String[] {"not", "prev", "rise", "fall", "once", "always"}) {
            form("watch w: " + ten + word + " true;", 49);
            // At the word itself, whatever stands behind it.
            form("watch w: " + ten + word, 49);
            form("watch w: " + ten + word + " #", 49);
        }
        form("watch w: " + ten + "once[1..2] true;", 49);
        form("watch w: " + ten + "{true};", 49);
        form("watch w: " + ten + "(1) = 1;", 49);
        form("watch w: " + ten + "1 = (1);", 53);
        for (String word : new String[] {"-", "old ", "max ", "min ", "sum "}) {
            form("watch w: " + ten + word + "1 = 1;", 49);
            form("watch w: " + ten + "1 = " + word + "1;", 53);
            form("watch w: " + ten + "1 + " + word, 53);
        }
        form("watch w: " + ten + "count{true} = 1;", 54);
        form("watch w: " + ten + "last {true} = 1;", 54);
        form("watch w: " + ten + "at{true} 1 = 1;", 51);
        form("watch w: " + ten + "at  {true} 1 = 1;", 53);
        form("watch w: " + ten + "if {true} then 1 else 1 = 1;", 52);
        // Where it is 10, all is right; and it is no error to have been there often.
        Checks.error("watch w: " + ten + "1 = 1 and " + ten + "true or {{{{{{{{{{true}}}}}}}}}};", 0, -1);
        Checks.askError(new PastWatch(), ten + "not true", 1, 40);
        Checks.askError(new PastWatch(), ten + "true", 0, -1);
    }

    private static void tooManyTokens() {
        // 399 tokens: seven ahead of the row, four in each part of it.
        String row = "watch w:-1=1" + " or 1=1".repeat(98);
        Checks.error(row + ";", 0, -1);
        Checks.error(row + ";\n", 0, -1);
        form(row + " or 1=1;", row.length() + 4);
        // The same place, whatever stands there.
        form(row + " or #", row.length() + 4);
        form(row + " or 1234567", row.length() + 4);
        form(row + " or or", row.length() + 4);
        form(row + ";watch v:true;", row.length() + 1);
        form(row + ";;", row.length() + 1);
        // The end of the tape has no place among the tokens.
        form(row + " or ", row.length() + 4);
        // What is wrong ahead of it comes first.
        form(row + " 1 or", row.length() + 1);
        Checks.askError(new PastWatch(), "1=1" + " or 1=1".repeat(99) + " or 1=1", 1, 3 + 7 * 99 + 4);
        Checks.askError(new PastWatch(), "-1=1" + " or 1=1".repeat(99) + " or", 1, 4 + 7 * 99 + 1);
        Checks.askError(new PastWatch(), "-1=1" + " or 1=1".repeat(99), 0, -1);
    }

    private static void firstByte() {
        form("  watch w: true;\n\n  abcdefgh: true;", 20);
        form("watch w: 1 <\n\n>= 2;", 14);
        form("watch w: 12 345 = 1;", 12);
        form("watch w: true..;", 13);
        form("watch w: true := 1;", 14);
        Checks.error("watch w: is\n  unknown;", 2, 14);
        Checks.error("watch w: once[9 ..\n 8] true;", 5, 20);
        Checks.error("watch name: true;\n\n  let name := true;", 3, 25);
    }

    // ---- errors of meaning

    private static void errorsOfMeaning() {
        Checks.sentence("1. The language", "Only if there is no error of form, the meaning is looked at", ErrorsEdgesTest::formComesFirst);
        Checks.sentence("1. The language", "item by item, in each from left to right: the first of these errors", ErrorsEdgesTest::firstOfThese);
        Checks.sentence("1. The language", "a name in an expression that is neither a signal told ahead nor a value told ahead", ErrorsEdgesTest::unknownInExpression);
        Checks.sentence("1. The language", "a name behind is that is no let and no watch told ahead", ErrorsEdgesTest::unknownBehindIs);
        Checks.sentence("1. The language",
            "Error 3 (at the name): a name behind signal, let, value or watch that stood behind one of these already", ErrorsEdgesTest::toldTwice);
        Checks.sentence("1. The language",
            "Error 4 (at the first token of the item): one too many: a 9th signal, a 13th let, a 13th value, a 13th watch", ErrorsEdgesTest::oneTooMany);
        Checks.sentence("1. The language", "Error 5 (at the number): a second bound that is less than the first one", ErrorsEdgesTest::boundsTurnedRound);
        Checks.sentence("1. The language", "or one that is greater than 1000", ErrorsEdgesTest::boundsTooGreat);
        Checks.sentence("1. The language", "a level that is greater than 9", ErrorsEdgesTest::levelTooGreat);
        Checks.sentence("1. The language", "Error 6 (at the end of the tape): no watch", ErrorsEdgesTest::noWatch);
    }

    private static void formComesFirst() {
        String[] wrongs = {"watch w: x = 1;", "watch w: is x;", "let a := true; let a := true;", items("signal", 9), "watch w: once[2..1] true;",
            "watch w: once[1001..1002] true;", "watch w: true level 10;", "let l := true;"};
        for (String wrong : wrongs) {
            PastWatch bench = new PastWatch();
            Checks.due("an error of meaning in " + wrong, true, Checks.compile(bench, wrong) > 1);
            form(wrong + " #", wrong.length() + 1);
            form(wrong + " let b := 1;", wrong.length() + 11);
            form(wrong + " let b := true", wrong.length() + 14);
            form(wrong.substring(0, wrong.length() - 1), wrong.length() - 1);
        }
        PastWatch bench = new PastWatch();
        Checks.askError(bench, "is x or", 1, 7);
        Checks.askError(bench, "x = 1 or 2", 1, 10);
        Checks.askError(bench, "once[2..1] true;", 1, 15);
    }

    private static void firstOfThese() {
        Checks.error("watch w: is x and y = 1;", 2, 12);
        Checks.error("watch w: y = 1 and is x;", 2, 9);
        Checks.error("watch w: once[2..1] is x level 10;", 5, 17);
        Checks.error("watch w: is x and once[2..1] true level 10;", 2, 12);
        Checks.error("watch w: true level 10; watch w: is x;", 5, 20);
        Checks.error("watch w: true; watch w: is x level 10;", 3, 21);
        Checks.error("watch w: true; let l := is x; let l := true;", 2, 27);
        Checks.error("watch w: true; let w := is x; let l := true;", 3, 19);
        Checks.error("let l := once[5..4] true;", 5, 17);
        Checks.error("let l := true; let l := true;", 3, 19);
        Checks.error("watch w: x = 1; " + items("signal", 9), 2, 9);
        Checks.error(items("signal", 9) + "watch w: x = 1;", 4, 8 * 12);
        Checks.error(items("signal", 8) + "signal s1=1; watch w: true;", 4, 8 * 12);
        Checks.error("watch w: once[7..6] true since[1001..5] true;", 5, 17);
        Checks.error("watch w: once[7..8] true since[1001..5] true;", 5, 31);
        Checks.error("watch w: if {is a} then b else c = 1;", 2, 16);
        Checks.error("watch w: if {true} then b else c = 1;", 2, 24);
        Checks.error("watch w: if {true} then 1 else c = 1;", 2, 31);
        Checks.error("watch w: at {true} b = c;", 2, 19);
        PastWatch bench = new PastWatch();
        Checks.askError(bench, "is x and once[2..1] true", 2, 3);
        Checks.askError(bench, "once[2..1] is x", 5, 8);
    }

    private static void unknownInExpression() {
        Checks.error("watch w: x = 1;", 2, 9);
        Checks.error("watch w: 1 = x;", 2, 13);
        Checks.error("value v = x; watch w: true;", 2, 10);
        Checks.error("value v = 1 + 2 * -x; watch w: true;", 2, 19);
        Checks.error("signal s = 1; watch w: s = 1 and t = 1;", 2, 33);
        // Told behind, told by itself, a let, a watch.
        Checks.error("watch w: s = 1; signal s = 1;", 2, 9);
        Checks.error("value u = v; value v = 1; watch w: true;", 2, 10);
        Checks.error("value v = v; watch w: true;", 2, 10);
        Checks.error("let l := true; watch w: l = 1;", 2, 24);
        Checks.error("watch v: true; watch w: v = 1;", 2, 24);
        Checks.error("let l := l = 1; watch w: true;", 2, 9);
        Checks.error("watch w: w = 1;", 2, 9);
        // Told just ahead.
        Checks.error("signal s = 1; value v = s; value u = v + s; watch w: u = s;", 0, -1);
        PastWatch bench = Checks.bench("signal s = 1; value v = s; let l := true; watch w: true;");
        Checks.askError(bench, "s = v", 0, -1);
        Checks.askError(bench, "s = l", 2, 4);
        Checks.askError(bench, "w = s", 2, 0);
        Checks.askError(bench, "s = x", 2, 4);
        Checks.askError(new PastWatch(), "s = 1", 2, 0);
    }

    private static void unknownBehindIs() {
        Checks.error("watch w: is x;", 2, 12);
        Checks.error("watch w: is w;", 2, 12);
        Checks.error("let l := is l; watch w: true;", 2, 12);
        Checks.error("let l := is m; let m := true; watch w: true;", 2, 12);
        Checks.error("let l := is w; watch w: true;", 2, 12);
        Checks.error("watch v: is w; watch w: true;", 2, 12);
        Checks.error("signal s = 1; watch w: is s;", 2, 26);
        Checks.error("value v = 1; watch w: is v;", 2, 25);
        Checks.error("let l := true; watch v: is l; watch w: is v and is l;", 0, -1);
        PastWatch bench = Checks.bench("signal s = 1; value v = s; let l := true; watch w: true;");
        Checks.askError(bench, "is l and is w", 0, -1);
        Checks.askError(bench, "is s", 2, 3);
        Checks.askError(bench, "is v", 2, 3);
        Checks.askError(bench, "is x", 2, 3);
        Checks.askError(new PastWatch(), "is w", 2, 3);
    }

    private static void toldTwice() {
        for (String first : SORTS) {
            for (String second : SORTS) {
                String start = item(first, "x") + item("watch", "w") + item("let", "m") + " ";
                Checks.error(start + item(second, "x"), 3, start.length() + second.length() + 1);
                Checks.error(start + item(second, "y"), 0, -1);
            }
        }
        // Names that differ a little are others; one item may use a name often.
        Checks.error("watch x: true; watch xx: true; watch x1: is x and is x; watch y: is x;", 0, -1);
        Checks.error("watch abcdefgh: true; watch abcdefgi: true; watch abcdefg: true; watch abcdefgh: true;", 3, 71);
    }

    private static void oneTooMany() {
        for (String sort : SORTS) {
            int most = mostOf(sort);
            String full = items(sort, most);
            String others = sort.equals("watch") ? "" : "watch w:true;";
            Checks.error(others + full, 0, -1);
            Checks.error(others + full + "\n " + item(sort, "x"), 4, others.length() + full.length() + 2);
            Checks.error(full + item(sort, "x") + others + item(sort, "y"), 4, full.length());
            // The others may still be told.
            for (String other : SORTS) {
                if (!other.equals(sort)) {
                    Checks.error(others + full + item(other, "x"), 0, -1);
                }
            }
        }
        String all = items("signal", 8) + items("let", 12) + items("value", 12) + items("watch", 12);
        PastWatch bench = Checks.bench(all);
        int[] counts = {8, 12, 12, 12};
        bench.tick(0);
        for (int i = 0; i < 12; i++) {
            // All the names are there, the last ones of each sort too.
            Checks.askError(bench, "is w" + i + " and is l" + i + " and v" + i + " = s" + i % 8, 0, -1);
            Checks.due("answer", true, bench.answer(0));
        }
        for (int sort = 0; sort < 4; sort++) {
            Checks.due("items " + sort, counts[sort], bench.count(sort));
            Checks.error(all + item(SORTS[sort], "x"), 4, all.length());
            // At the first token, so ahead of a name told twice.
            Checks.error(all + item(SORTS[sort], "l0"), 4, all.length());
        }
    }

    private static void boundsTurnedRound() {
        Checks.error("watch w: once[1..0] true;", 5, 17);
        Checks.error("watch w: always[1..0] true;", 5, 19);
        Checks.error("watch w: true since[1..0] true;", 5, 23);
        Checks.error("watch w: once[1000..999] true;", 5, 20);
        Checks.error("watch w: once[10..9] true;", 5, 18);
        Checks.error("watch w: once[9..000008] true;", 5, 17);
        for (String bounds : new String[] {"[0..0]", "[0..1]", "[7..7]", "[7..8]", "[999..1000]", "[1000..1000]", "[000007..7]"}) {
            Checks.error("watch w: once" + bounds + " true and always" + bounds + " true since" + bounds + " true;", 0, -1);
        }
        Checks.askError(new PastWatch(), "once[1..0] true", 5, 8);
        Checks.askError(new PastWatch(), "true since[3..2] true", 5, 14);
    }

    private static void boundsTooGreat() {
        Checks.error("watch w: once[0..1001] true;", 5, 17);
        Checks.error("watch w: always[0..1001] true;", 5, 19);
        Checks.error("watch w: true since[0..1001] true;", 5, 23);
        Checks.error("watch w: once[1000..1001] true;", 5, 20);
        Checks.error("watch w: once[0..999999] true;", 5, 17);
        Checks.error("watch w: once[0..1000] true;", 0, -1);
        // The first one too; and it stands left of the second.
        Checks.error("watch w: once[1001..1001] true;", 5, 14);
        Checks.error("watch w: always[1001..1002] true;", 5, 16);
        Checks.error("watch w: true since[1001..0] true;", 5, 20);
        Checks.error("watch w: once[999999..1000] true;", 5, 14);
        Checks.askError(new PastWatch(), "once[0..1001] true", 5, 8);
        Checks.askError(new PastWatch(), "once[1001..1002] true", 5, 5);
    }

    private static void levelTooGreat() {
        Checks.error("watch w: true level 10;", 5, 20);
        Checks.error("watch w: true level 999999;", 5, 20);
        Checks.error("watch w: true level 000010;", 5, 20);
        for (int level = 0; level <= 9; level++) {
            PastWatch bench = Checks.bench("watch v: true; watch w: true level " + level + ";");
            Checks.due("level", level, bench.told(1, 0));
            Checks.due("level of the other", 5, bench.told(0, 0));
        }
        Checks.error("watch v: true level 9; watch w: true level 10;", 5, 43);
    }

    private static void noWatch() {
        Checks.error("signal s = 1;", 6, 13);
        Checks.error("let l := true;", 6, 14);
        Checks.error("value v = 1;", 6, 12);
        Checks.error("value v = 1; \n", 6, 14);
        String others = items("signal", 8) + items("let", 12) + items("value", 12);
        Checks.error(others, 6, others.length());
        // The last of all errors.
        Checks.error("let l := is x;", 2, 12);
        Checks.error("let l := true; let l := true;", 3, 19);
        Checks.error(items("signal", 9), 4, 8 * 12);
        Checks.error("let l := once[1..0] true;", 5, 17);
        Checks.error("let l := true", 1, 13);
    }
}
