/** The meaning of every operator, and the reasons of what does not hold. */
final class FormulasTest {
    private static final long[] TIMES = {3, 3, 5, 9, 10, 20, 20, 21};
    private static final long[] VALUES = {4, -7, 0, 4, 5, Long.MAX_VALUE, Long.MIN_VALUE, 1};

    public static void main(String[] args) {
        constantsAndWords();
        arithmetic();
        wrapAround();
        history();
        compares();
        joined();
        looksBack();
        bounds();
        operatorOrder();
        places();
        reasons();
        Checks.end("FormulasTest");
    }

    /** A bench of a program, with the eight steps above done. */
    private static PastWatch told(String text) {
        PastWatch bench = Checks.bench("signal s = 0; signal k = 3;" + text);
        long before = 0;
        for (int i = 0; i < TIMES.length; i++) {
            bench.set(0, VALUES[i]);
            bench.set(1, i % 3);
            bench.tick((int) (TIMES[i] - before));
            before = TIMES[i];
        }
        return bench;
    }

    private static void number(String expression, long... want) {
        PastWatch bench = told("value v = " + expression + "; value again = v; watch w: true;");
        for (int step = 0; step < want.length; step++) {
            Checks.due(expression + " at " + step, want[step], bench.value(0, step));
            Checks.due("value of " + expression + " at " + step, want[step], bench.value(1, step));
        }
    }

    /** A 1 or 0 for each of the eight steps. */
    private static void formula(String formula, String want) {
        PastWatch bench = told("let l := " + formula + "; watch w: " + formula + "; watch v: is l;");
        Checks.due("ask " + formula, 0, Checks.ask(bench, formula));
        for (int step = 0; step < want.length(); step++) {
            boolean holds = want.charAt(step) == '1';
            Checks.due("let " + formula + " at " + step, holds, bench.let(0, step));
            Checks.due("watch " + formula + " at " + step, holds, bench.watch(0, step));
            Checks.due("is " + formula + " at " + step, holds, bench.watch(1, step));
            Checks.due("answer of " + formula + " at " + step, holds, bench.answer(step));
        }
    }

    private static void constantsAndWords() {
        number("7", 7, 7, 7);
        number("000012", 12, 12);
        number("999999", 999999);
        number("time", TIMES);
        number("step", 0, 1, 2, 3, 4, 5, 6, 7);
        number("s", VALUES);
        number("k", 0, 1, 2, 0, 1, 2, 0, 1);
        formula("true", "11111111");
        formula("false", "00000000");
    }

    private static void arithmetic() {
        number("2 + 3 - 1", 4);
        number("1 - 2 - 3", -4);
        number("1 - (2 - 3)", 2);
        number("2 + 3 * 4 - 10 / 3", 11);
        number("7 / 2 * 2 % 4", 2);
        number("-7 / 2", -3);
        number("7 / -2", -3);
        number("-7 % 3", -1);
        number("7 % -3", 1);
        number("7 / 0 + 5 % 0", 0);
        number("0 / 0 - 0 % 0", 0);
        number("9 / (s - s)", 0, 0, 0);
        number("-s", -4, 7, 0, -4, -5, -Long.MAX_VALUE, Long.MIN_VALUE, -1);
        number("--5 - -2", 7);
        number("-2 * -3", 6);
        number("-old s", 0, -4, 7, 0);
        number("old s * 2", 0, 8, -14, 0, 8);
        number("sum k + 1", 1, 2, 4, 4, 5, 7, 7, 8);
        number("sum (k + 1)", 1, 3, 6, 7, 9, 12, 13, 15);
    }

    private static void wrapAround() {
        number("s + 1", 5, -6, 1, 5, 6, Long.MIN_VALUE, Long.MIN_VALUE + 1, 2);
        number("s - 1", 3, -8, -1, 3, 4, Long.MAX_VALUE - 1, Long.MAX_VALUE, 0);
        number("s * 3", 12, -21, 0, 12, 15, Long.MAX_VALUE * 3, Long.MIN_VALUE * 3, 3);
        number("s / -1", -4, 7, 0, -4, -5, -Long.MAX_VALUE, Long.MIN_VALUE, -1);
        number("s % -1", 0, 0, 0, 0, 0, 0, 0, 0);
        number("sum s", 4, -3, -3, 1, 6, Long.MIN_VALUE + 5, 5, 6);
        number("999999 * 999999 * 999999 * 999999", 999999L * 999999L * 999999L * 999999L);
    }

    private static void history() {
        number("old s", 0, 4, -7, 0, 4, 5, Long.MAX_VALUE, Long.MIN_VALUE);
        number("old old s", 0, 0, 4, -7, 0, 4, 5, Long.MAX_VALUE);
        number("old time", 0, 3, 3, 5, 9, 10, 20, 20);
        number("max s", 4, 4, 4, 4, 5, Long.MAX_VALUE, Long.MAX_VALUE, Long.MAX_VALUE);
        number("min s", 4, -7, -7, -7, -7, -7, Long.MIN_VALUE, Long.MIN_VALUE);
        number("max -s", -4, 7, 7, 7, 7, 7, 7, 7);
        number("min (k + 5)", 5, 5, 5, 5);
        number("max (k - 5)", -5, -4, -3, -3);
        number("sum step", 0, 1, 3, 6, 10, 15, 21, 28);
        number("count{s > 0}", 1, 1, 1, 2, 3, 4, 4, 5);
        number("count{true}", 1, 2, 3, 4, 5, 6, 7, 8);
        number("count{false}", 0, 0, 0);
        number("last{s > 0}", 0, 0, 2, 0, 0, 0, 0, 0);
        number("last{k = 2}", -1, -1, 0, 4, 5, 0, 0, 1);
        number("last{k = 1}", -1, 0, 2, 6, 0, 10, 10, 0);
        number("last{false}", -1, -1, -1, -1);
        number("last{step = 0}", 0, 0, 2, 6, 7, 17, 17, 18);
        number("at{k = 2} s", 0, 0, 0, 0, 0, Long.MAX_VALUE, Long.MAX_VALUE, Long.MAX_VALUE);
        number("at{k = 1} s", 0, -7, -7, -7, 5, 5, 5, 1);
        number("at{false} s", 0, 0, 0);
        number("at{k = 1} old s", 0, 4, 4, 4, 4, 4, 4, Long.MIN_VALUE);
        number("at{k = 1} s + 1", 1, -6, -6, -6, 6, 6, 6, 2);
        number("if{k = 1} then 10 else -20", -20, 10, -20, -20, 10, -20, -20, 10);
        number("if{k = 1} then 10 else k + 1", 1, 11, 3, 1, 11, 3, 1, 11);
        number("if{k = 1} then if{step > 3} then 5 else 6 else if{k = 0} then 7 else 8", 7, 6, 8, 7, 5, 8, 7, 5);
        number("max old if{step = 1} then 50 else 2", 0, 2, 50, 50);
        number("old count{k = 1}", 0, 0, 1, 1, 1, 2, 2, 2);
        number("old at{k = 1} step", 0, 0, 1, 1, 1, 4, 4, 4);
    }

    private static void compares() {
        formula("s = 4", "10010000");
        formula("s <> 4", "01101111");
        formula("s < 1", "01100010");
        formula("s > 1", "10011100");
        formula("s <= 1", "01100011");
        formula("s >= 1", "10011101");
        formula("s < s", "00000000");
        formula("s <= s", "11111111");
        formula("s + 1 > s", "11111011");
    }

    private static void joined() {
        formula("k = 0 and s > 0", "10010000");
        formula("k = 0 or s > 0", "10011111");
        formula("k = 0 implies s > 0", "11111101");
        formula("not k = 0", "01101101");
        formula("not not k = 0", "10010010");
        formula("not {k = 0 or k = 1}", "00100100");
        formula("true implies false implies false", "11111111");
        formula("{true implies false} implies false", "11111111");
        formula("false implies true implies false", "11111111");
        formula("{false implies true} implies false", "00000000");
        formula("true implies true implies false", "00000000");
        formula("true implies true implies true implies k = 1", "01001001");
        formula("true implies k = 1 implies true implies false", "10110110");
        formula("true or true and false", "11111111");
        formula("{true or true} and false", "00000000");
        formula("false and false or true", "11111111");
        formula("false implies false or false", "11111111");
        formula("true or true implies false", "00000000");
    }

    private static void looksBack() {
        formula("prev k = 0", "01001001");
        formula("prev prev k = 0", "00100100");
        formula("prev not k = 0", "00110110");
        formula("not prev k = 0", "10110110");
        formula("prev true", "01111111");
        formula("rise k = 0", "10010010");
        formula("rise true", "10000000");
        formula("rise k < 2", "10010010");
        formula("fall k < 2", "00100100");
        formula("fall true", "00000000");
        formula("fall false", "00000000");
        formula("fall step < 1", "01000000");
        formula("once s = 0", "00111111");
        formula("once false", "00000000");
        formula("always s > -8", "11111100");
        formula("always s > 3", "10000000");
        formula("always once k = 0", "11111111");
        formula("once always false", "00000000");
        formula("prev once s = 0", "00011111");
        formula("rise once s = 0", "00100000");
        formula("k = 1 since k = 0", "11011011");
        formula("true since k = 2", "00111111");
        formula("false since k = 2", "00100100");
        formula("s > 0 since s = 4", "10011100");
        formula("s > 0 since s = 0", "00111100");
    }

    private static void bounds() {
        // times 3, 3, 5, 9, 10, 20, 20, 21; k = 0 at 0, 3, 6, k = 1 at 1, 4, 7
        formula("once[0..0] k = 0", "11010010");
        formula("once[0..0] k = 1", "01001001");
        formula("once[0..2] k = 0", "11111011");
        formula("once[1..2] k = 0", "00101001");
        formula("once[2..6] k = 0", "00110000");
        formula("once[5..10] k = 1", "00011110");
        formula("once[11..1000] true", "00000111");
        formula("once[18..18] true", "00000001");
        formula("once[19..1000] true", "00000000");
        formula("always[0..0] k = 0", "10010000");
        formula("always[0..0] k < 2", "11011001");
        formula("always[1..2] k = 0", "11011110");
        formula("always[1..6] k = 1", "11000110");
        formula("always[19..1000] false", "11111111");
        formula("always[0..1000] s > -8", "11111100");
        formula("always[17..17] k = 2", "11111001");
        formula("once[17..17] k = 2", "00000000");
        formula("k < 2 since[0..1] k = 0", "11011011");
        formula("true since[4..7] k = 1", "00011000");
        formula("k < 2 since[1..1] true", "00001001");
        formula("k < 2 since[0..0] true", "11111111");
        formula("false since[0..0] k = 0", "10010010");
        formula("false since[1..9] true", "00000000");
        formula("s > 0 since[5..5] s = 0", "00001000");
        formula("s > 0 since[6..15] s = 0", "00000100");
        formula("true since[18..1000] step = 1", "00000001");
        formula("s <> 1 since[0..18] step = 1", "01111110");
    }

    private static void operatorOrder() {
        formula("not true or true", "11111111");
        formula("not true and false", "00000000");
        formula("not k = 0 since k = 0", "11111111");
        formula("k = 1 since k = 0 and step > 2", "00011011");
        formula("not {k = 1 since k = 0}", "00100100");
        formula("k = 1 since not k = 0", "01101101");
        formula("true since k = 2 or step = 0", "10111111");
        formula("once k = 2 and step > 3", "00001111");
        formula("once {k = 2 and step > 3}", "00000111");
        formula("prev 1 = 1 and false", "00000000");
        formula("rise k = 0 or false", "10010010");
        formula("always 1 + 2 * 3 = 7", "11111111");
        formula("not k = 1 implies false", "01001001");
    }

    /** The reason of a watch that starts at 9, and holds nowhere. */
    private static void reason(String formula, int step, int place, int reasonStep) {
        PastWatch bench = Checks.bench("watch w: " + formula + ";");
        for (int i = 0; i <= step; i++) {
            bench.tick(2);
        }
        Checks.due("holds " + formula, false, bench.watch(0, step));
        Checks.due("place of " + formula, place, bench.why(0, step, false));
        Checks.due("step of " + formula, reasonStep, bench.why(0, step, true));
    }

    private static void places() {
        reason("false", 2, 9, 2);
        reason(" \n false", 2, 12, 2);
        reason("not true", 2, 9, 2);
        reason("1 = 2", 2, 9, 2);
        reason("(1) + 3 * 2 = 2", 2, 9, 2);
        reason("-1 >= 2", 2, 9, 2);
        reason("count{true} < 0", 2, 9, 2);
        reason("once false", 2, 9, 2);
        reason("once[0..3] {false and true}", 2, 9, 2);
        reason("rise true", 2, 9, 2);
        reason("fall true", 2, 9, 2);
        reason("prev false", 0, 9, 0);
        reason("prev true", 0, 9, 0);
        reason("prev false", 2, 14, 1);
        reason("prev prev false", 2, 19, 0);
        reason("prev prev false", 1, 14, 0);
        reason("prev prev true", 1, 14, 0);
        reason("{false}", 2, 10, 2);
        reason("{{ {false}}}", 2, 13, 2);
        reason("false since true and false", 1, 30, 1);
        reason("true since false", 2, 9, 2);
        reason("{true} since false", 2, 9, 2);
        reason("{true or true} since[0..2] {false}", 2, 9, 2);
        reason("1 + 1 = 2 since 2 < 1", 2, 9, 2);
        reason("not once true", 2, 9, 2);
        reason("not {false or true}", 1, 9, 1);
    }

    private static void reasons() {
        reason("true and false", 2, 18, 2);
        reason("false and false", 2, 9, 2);
        reason("true and true and 1 = 2 and false", 2, 27, 2);
        reason("{true and false} and false", 2, 19, 2);
        reason("true and {true and false}", 2, 28, 2);
        reason("false or false", 2, 18, 2);
        reason("false or 1 = 2 or 2 = 3", 2, 27, 2);
        reason("false or false and true", 2, 18, 2);
        reason("false or {false or false}", 2, 28, 2);
        reason("true implies false", 2, 22, 2);
        reason("true implies true implies false", 2, 35, 2);
        reason("{true implies false} or false", 2, 33, 2);
        reason("true implies true implies false or 1 = 2", 2, 44, 2);
        reason("{true implies false} and false", 2, 23, 2);
        reason("always false", 2, 16, 0);
        reason("always step < 2", 3, 16, 2);
        reason("always {true and step < 2}", 3, 26, 2);
        reason("always[0..2] step < 2", 4, 22, 3);
        reason("always[2..4] step < 2", 5, 22, 3);
        reason("always[4..1000] step <> 1", 5, 25, 1);
        reason("prev always step < 2", 5, 21, 2);
        reason("always prev step < 2", 5, 16, 0);
        reason("always {step = 0 or prev step < 2}", 5, 34, 2);
        reason("prev {always[0..0] step = 7 and true}", 5, 28, 4);
        isReasons();
    }

    private static void isReasons() {
        PastWatch bench = Checks.bench("let l := 1 = 2 or step <> 1; watch v: is l; watch w: always is v; watch x: true implies is w;");
        bench.tick(0);
        bench.tick(1);
        bench.tick(0);
        Checks.due("place of is", 18, bench.why(0, 1, false));
        Checks.due("step of is", 1, bench.why(0, 1, true));
        Checks.due("place of always is", 18, bench.why(1, 2, false));
        Checks.due("step of always is", 1, bench.why(1, 2, true));
        Checks.due("place of implies is", 18, bench.why(2, 2, false));
        Checks.due("step of implies is", 1, bench.why(2, 2, true));
    }
}
