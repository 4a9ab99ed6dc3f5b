import java.util.Arrays;

/** The sentences of "2. What formulas mean" that name a boundary case (step 0, bounds, none of them): a test for each. */
final class MeaningEdgesTest {
    private static final String ITEMS = "signal p = 0; signal q = 0; let f := p = 1; let g := q = 1; ";
    private static final String ZEROS = "0000000000";
    /** Times at which bounds are looked at: some are the same. */
    private static final int[] TIMES = {2, 5, 5, 9, 12, 12, 20};

    public static void main(String[] args) {
        steps();
        formulas();
        expressions();
        reasons();
        Checks.end("MeaningEdgesTest");
    }

    // ---- helpers

    /** A bench with a step at each of the times, at which p and q are what the signs of two rows tell. */
    private static PastWatch past(String items, int[] times, String p, String q) {
        PastWatch bench = Checks.bench(ITEMS + items);
        int before = 0;
        for (int step = 0; step < times.length; step++) {
            bench.set(0, p.charAt(step) - '0');
            bench.set(1, q.charAt(step) - '0');
            bench.tick(times[step] - before);
            before = times[step];
        }
        return bench;
    }

    private static int[] seconds(int many) {
        int[] times = new int[many];
        Arrays.setAll(times, step -> step);
        return times;
    }

    /** Whether a formula holds, 1 or 0 for each step; f and g hold where p and q are 1. */
    private static void holds(String formula, int[] times, String p, String q, String want) {
        PastWatch bench = past("let l := " + formula + "; watch w: " + formula + ";", times, p, q);
        Checks.due("ask " + formula, 0, Checks.ask(bench, formula));
        String what = formula + " with " + p + " and " + q + " at ";
        for (int step = 0; step < times.length; step++) {
            boolean due = want.charAt(step) == '1';
            Checks.due("let " + what + step, due, bench.let(2, step));
            Checks.due("watch " + what + step, due, bench.watch(0, step));
            Checks.due("answer " + what + step, due, bench.answer(step));
        }
    }

    private static void holds(String formula, String p, String q, String want) {
        holds(formula, seconds(p.length()), p, q, want);
    }

    private static void holds(String formula, String p, String want) {
        holds(formula, p, ZEROS, want);
    }

    /** At the seven times 2, 5, 5, 9, 12, 12, 20. */
    private static void timed(String formula, String p, String q, String want) {
        holds(formula, TIMES, p, q, want);
    }

    private static void timed(String formula, String p, String want) {
        timed(formula, p, ZEROS, want);
    }

    private static void number(String expression, int[] times, String p, String q, long... want) {
        PastWatch bench = past("value v = " + expression + "; watch w: true;", times, p, q);
        for (int step = 0; step < want.length; step++) {
            Checks.due(expression + " with " + p + " and " + q + " at " + step, want[step], bench.value(0, step));
        }
    }

    private static void number(String expression, String p, String q, long... want) {
        number(expression, seconds(p.length()), p, q, want);
    }

    private static void number(String expression, String p, long... want) {
        number(expression, p, ZEROS, want);
    }

    // ---- steps

    private static void steps() {
        Checks.sentence("2. What formulas mean", "Steps are numbered from 0", () -> {
            PastWatch bench = past("watch w: p = 3;", seconds(3), "345", ZEROS);
            Checks.due("watch at the first step", true, bench.watch(0, 0));
            Checks.due("signal at the first step", 3L, bench.signal(0, 0));
            Checks.due("signal at the last step", 5L, bench.signal(0, 2));
            Checks.refuses("step 3 of three", IndexOutOfBoundsException.class, () -> bench.time(3));
        });
        Checks.sentence("2. What formulas mean", "A step i has a time t(i), which is never less than that of the step ahead", () -> {
            PastWatch bench = past("watch w: true;", TIMES, ZEROS, ZEROS);
            for (int step = 0; step < TIMES.length; step++) {
                Checks.due("time", TIMES[step], bench.time(step));
            }
            Checks.refuses("a time that is less", IllegalArgumentException.class, () -> bench.tick(-1));
            bench.tick(0);
            Checks.due("the same time", 20, bench.time(7));
        });
        Checks.sentence("2. What formulas mean", "not, and, or, implies as usual", () -> {
            holds("not is f", "01", "10");
            holds("is f and is g", "0011", "0101", "0001");
            holds("is f or is g", "0011", "0101", "0111");
            holds("is f implies is g", "0011", "0101", "1101");
            holds("is f implies is g implies false", "0011", "0101", "1110");
            holds("is f and is g and is f", "0011", "0101", "0001");
            holds("is f or false or is g", "0011", "0101", "0111");
        });
        Checks.sentence("2. What formulas mean", "is x: what x is there", () -> {
            holds("is f", "0110", "0110");
            holds("prev is f and is g", "0110", "0111", "0011");
            PastWatch bench = past("watch w: is f; let again := is w; watch v: not is again;", seconds(2), "10", ZEROS);
            Checks.due("let", true, bench.let(2, 0));
            Checks.due("let", false, bench.let(2, 1));
            Checks.due("watch", false, bench.watch(1, 0));
            Checks.due("watch", true, bench.watch(1, 1));
        });
        Checks.sentence("2. What formulas mean", "a compare of two expressions, as they are there", () -> {
            holds("p = q", "001122", "010212", "100001");
            holds("p <> q", "001122", "010212", "011110");
            holds("p < q", "001122", "010212", "010100");
            holds("p > q", "001122", "010212", "001010");
            holds("p <= q", "001122", "010212", "110101");
            holds("p >= q", "001122", "010212", "101011");
        });
    }

    // ---- formulas

    private static void formulas() {
        Checks.sentence("2. What formulas mean", "prev f: i is not 0, and f holds at i - 1", () -> {
            holds("prev is f", "1", "0");
            holds("prev is f", "11010", "01101");
            holds("prev true", "000", "011");
            holds("prev not is f", "0010", "0110");
            holds("prev prev is f", "1101", "0011");
            holds("not prev is f", "111", "100");
        });
        Checks.sentence("2. What formulas mean", "rise f: f holds, and i is 0 or f does not hold at i - 1", () -> {
            holds("rise is f", "1", "1");
            holds("rise is f", "0", "0");
            holds("rise is f", "1101101", "1001001");
            holds("rise is f", "0110010", "0100010");
            holds("rise true", "000", "100");
        });
        Checks.sentence("2. What formulas mean", "fall f: f does not hold, i is not 0, and f holds at i - 1", () -> {
            holds("fall is f", "1", "0");
            holds("fall is f", "0", "0");
            holds("fall is f", "1101100", "0010010");
            holds("fall is f", "0010", "0001");
            holds("fall not is f", "0011", "0010");
        });
        Checks.sentence("2. What formulas mean", "once f: f holds at a step j, 0 to i", () -> {
            holds("once is f", "1000", "1111");
            holds("once is f", "0100", "0111");
            holds("once is f", "0001", "0001");
            holds("once is f", "0000", "0000");
        });
        Checks.sentence("2. What formulas mean", "with bounds [a..b]: and t(i) - t(j) is a to b", MeaningEdgesTest::onceInBounds);
        Checks.sentence("2. What formulas mean", "always f: f holds at all steps j, 0 to i", () -> {
            holds("always is f", "0111", "0000");
            holds("always is f", "1011", "1000");
            holds("always is f", "1110", "1110");
            holds("always is f", "1111", "1111");
        });
        Checks.sentence("2. What formulas mean", "with bounds: at all those for which t(i) - t(j) is a to b", MeaningEdgesTest::alwaysInBounds);
        Checks.sentence("2. What formulas mean", "f since g: there is a step j, 0 to i, at which g holds, and f holds at all steps behind j, up to i", () -> {
            holds("is f since is g", "0000", "0110", "0110");
            holds("is f since is g", "0111", "1000", "1111");
            holds("is f since is g", "0101", "1000", "1100");
            holds("is f since is g", "1110", "0100", "0110");
            holds("is f since is g", "1111", "0000", "0000");
            holds("is f since is g", "1111", "0001", "0001");
            holds("is f since is g", "0010", "1100", "1110");
        });
        Checks.sentence("2. What formulas mean", "with bounds: and t(i) - t(j) is a to b", MeaningEdgesTest::sinceInBounds);
        Checks.sentence("2. What formulas mean", "f holds at a step j, 0 to i", MeaningEdgesTest::longestPast);
    }

    private static void onceInBounds() {
        // f at the time 2 alone: the ages at the seven steps are 0, 3, 3, 7, 10, 10, 18.
        timed("once[0..0] is f", "1000000", "1000000");
        timed("once[3..7] is f", "1000000", "0111000");
        timed("once[4..7] is f", "1000000", "0001000");
        timed("once[3..6] is f", "1000000", "0110000");
        timed("once[8..9] is f", "1000000", "0000000");
        timed("once[10..18] is f", "1000000", "0000111");
        timed("once[11..17] is f", "1000000", "0000000");
        timed("once[18..18] is f", "1000000", "0000001");
        timed("once[0..1000] is f", "1000000", "1111111");
        timed("once[19..1000] true", "0000000", "0000000");
        // Steps of one time are 0 apart, whichever is first; but none is ahead of what is behind it.
        timed("once[0..0] is f", "0100000", "0110000");
        timed("once[0..0] is f", "0010000", "0010000");
        timed("once[1..1000] is f", "0110000", "0001111");
        timed("once[4..4] is f", "0010000", "0001000");
        // An age of 1000 and one of 1001: the greatest bound, and no bound.
        int[] far = {0, 1000, 1001, 2001};
        holds("once[1000..1000] is f", far, "1000", ZEROS, "0100");
        holds("once[0..1000] is f", far, "1000", ZEROS, "1100");
        holds("once[999..1000] is f", far, "0100", ZEROS, "0000");
        holds("once[1000..1000] is f", far, "0010", ZEROS, "0001");
        holds("once is f", far, "1000", ZEROS, "1111");
    }

    private static void alwaysInBounds() {
        timed("always[0..0] is f", "0111111", "0111111");
        timed("always[3..7] is f", "0111111", "1000111");
        timed("always[4..7] is f", "0111111", "1110111");
        timed("always[3..6] is f", "0111111", "1001111");
        timed("always[8..9] is f", "0111111", "1111111");
        timed("always[10..18] is f", "0111111", "1111000");
        timed("always[18..18] is f", "0111111", "1111110");
        timed("always[0..1000] is f", "0111111", "0000000");
        // If there is none of those steps, it holds.
        timed("always[19..1000] false", "0000000", "1111111");
        timed("always[1..2] false", "0000000", "1111111");
        timed("always[0..0] is f", "1011111", "1001111");
        timed("always[0..0] is f", "1101111", "1101111");
        timed("always[1..1000] is f", "1101111", "1110000");
        int[] far = {0, 1000, 1001, 2001};
        holds("always[1000..1000] is f", far, "0111", ZEROS, "1011");
        holds("always[0..1000] is f", far, "0111", ZEROS, "0011");
        holds("always is f", far, "0111", ZEROS, "0000");
    }

    private static void sinceInBounds() {
        timed("is f since[0..0] is g", "0000000", "1000000", "1000000");
        timed("is f since[0..0] is g", "0010000", "0100000", "0110000");
        timed("is f since[0..0] is g", "0000000", "0100000", "0100000");
        timed("is f since[3..7] is g", "0111111", "1000000", "0111000");
        timed("is f since[4..7] is g", "0111111", "1000000", "0001000");
        timed("is f since[3..6] is g", "0111111", "1000000", "0110000");
        timed("is f since[10..18] is g", "0111111", "1000000", "0000111");
        timed("is f since[11..17] is g", "0111111", "1000000", "0000000");
        timed("is f since[18..18] is g", "0111111", "1000000", "0000001");
        timed("is f since[19..1000] is g", "0111111", "1000000", "0000000");
        timed("is f since[0..1000] is g", "0111111", "1000000", "1111111");
        // Behind a step of the right age, f has to hold at all steps, also at those that are too young.
        timed("is f since[3..18] is g", "0111011", "1000000", "0111000");
        timed("is f since[3..18] is g", "1111110", "1000000", "0111110");
        timed("is f since[7..18] is g", "1111111", "1001000", "0001111");
        timed("is f since[8..9] is g", "0111111", "1001001", "0000000");
        // A g that is too young, or too old, is none; the right one may stand between these.
        timed("is f since[3..4] is g", "1111111", "1101001", "0111110");
        timed("is f since[4..4] is g", "1101111", "1110000", "0001000");
        timed("is f since[4..4] is g", "1101111", "1100000", "0000000");
        timed("is f since[4..4] is g", "1111111", "1100000", "0001000");
        int[] far = {0, 1000, 1001, 2001};
        holds("is f since[1000..1000] is g", far, "1111", "1000", "0100");
        holds("is f since[0..1000] is g", far, "1111", "1000", "1100");
        holds("is f since is g", far, "0111", "1000", "1111");
    }

    private static void longestPast() {
        PastWatch bench = Checks.bench("watch a: once step = 0; watch b: always step <> 0; watch c: true since step = 0; watch d: once[0..1000] step = 0;"
            + "value a1 = last{step = 0}; value a2 = sum 1; value a3 = old step; value a4 = max -step; value a5 = at{step = 0} (step + 7);");
        for (int step = 0; step < 120; step++) {
            bench.tick(1000);
        }
        boolean[] want = {true, false, true, false};
        for (int watch = 0; watch < want.length; watch++) {
            Checks.due("watch " + watch, want[watch], bench.watch(watch, 119));
        }
        long[] values = {119000, 120, 118, 0, 7};
        for (int value = 0; value < values.length; value++) {
            Checks.due("value " + value, values[value], bench.value(value, 119));
        }
        Checks.due("reason of always", 0, bench.why(1, 119, true));
        Checks.due("time", 120000, bench.time(119));
    }

    // ---- expressions

    private static void expressions() {
        Checks.sentence("2. What formulas mean", "time: t(i)", () -> {
            number("time", TIMES, ZEROS, ZEROS, 2, 5, 5, 9, 12, 12, 20);
            number("time", new int[] {0, 1000}, ZEROS, ZEROS, 0, 1000);
            number("old time", TIMES, ZEROS, ZEROS, 0, 2, 5, 5, 9, 12, 12);
        });
        Checks.sentence("2. What formulas mean", "step: i", () -> {
            number("step", TIMES, ZEROS, ZEROS, 0, 1, 2, 3, 4, 5, 6);
            number("old step", TIMES, ZEROS, ZEROS, 0, 0, 1, 2, 3, 4, 5);
        });
        Checks.sentence("2. What formulas mean", "old e: the value of e at i - 1; 0 if i is 0", () -> {
            number("old p", "35791", 0, 3, 5, 7, 9);
            number("old 7", "000", 0, 7, 7);
            number("old old p", "35791", 0, 0, 3, 5, 7);
            number("old (old 7 + 1)", "0000", 0, 1, 8, 8);
            number("-old -p", "357", 0, 3, 5);
            number("old count{is f}", "1011", 0, 1, 1, 2);
        });
        Checks.sentence("2. What formulas mean", "max, min, sum e: over the values of e at all steps from 0 to i", () -> {
            number("max p", "31425", 3, 3, 4, 4, 5);
            number("max -p", "53142", -5, -3, -1, -1, -1);
            number("min p", "53142", 5, 3, 1, 1, 1);
            number("min -p", "31425", -3, -3, -4, -4, -5);
            number("min (p + 4)", "12", 5, 5);
            number("sum p", "31425", 3, 4, 8, 10, 15);
            number("sum -p", "31425", -3, -4, -8, -10, -15);
            number("max old p", "312", 0, 3, 3);
            number("min old p", "312", 0, 0, 0);
            number("sum sum p", "111", 1, 3, 6);
        });
        Checks.sentence("2. What formulas mean", "count f: at how many of these steps f holds", () -> {
            number("count{is f}", "1", 1);
            number("count{is f}", "0", 0);
            number("count{is f}", "10110", 1, 1, 2, 3, 3);
            number("count{prev true}", "000", 0, 1, 2);
            number("count{true} + count{false}", "000", 1, 2, 3);
        });
        Checks.sentence("2. What formulas mean", "last f: t(i) - t(j) for the last step j, 0 to i, at which f holds; -1 if there is none", () -> {
            number("last{is f}", TIMES, "0000000", ZEROS, -1, -1, -1, -1, -1, -1, -1);
            number("last{is f}", TIMES, "1000000", ZEROS, 0, 3, 3, 7, 10, 10, 18);
            number("last{is f}", TIMES, "0100000", ZEROS, -1, 0, 0, 4, 7, 7, 15);
            number("last{is f}", TIMES, "1010010", ZEROS, 0, 3, 0, 4, 7, 0, 8);
            number("last{is f}", TIMES, "0000001", ZEROS, -1, -1, -1, -1, -1, -1, 0);
            number("last{true}", TIMES, "0000000", ZEROS, 0, 0, 0, 0, 0, 0, 0);
        });
        Checks.sentence("2. What formulas mean", "at f e: the value of e at the last such step; 0 if there is none", () -> {
            number("at{is f} q", "000", "567", 0, 0, 0);
            number("at{is f} q", "100", "567", 5, 5, 5);
            number("at{is f} q", "010", "567", 0, 6, 6);
            number("at{is f} q", "101", "567", 5, 5, 7);
            number("at{is f} old q", "101", "567", 0, 0, 6);
            number("at{is f} -q", "001", "567", 0, 0, -7);
            number("at{is f} 0 + 1", "001", "567", 1, 1, 1);
            number("at{step = 1} at{is f} q", "1000", "5678", 0, 5, 5, 5);
        });
        Checks.sentence("2. What formulas mean", "if f then d else e: d if f holds, otherwise e", () -> {
            number("if{is f} then 3 else q", "101", "567", 3, 6, 3);
            number("if{is f} then -q else 4", "101", "567", -5, 4, -7);
            number("if{prev is f} then 1 else 2", "101", "567", 2, 1, 2);
            number("if{is f} then sum q else max q", "0101", "5672", 5, 11, 7, 20);
        });
    }

    // ---- reasons

    /** The place of a reason, counted in the formula, and its step. */
    private static void reason(String formula, String p, String q, int step, int place, int reasonStep) {
        reason(formula, seconds(p.length()), p, q, step, place, reasonStep);
    }

    private static void reason(String formula, int[] times, String p, String q, int step, int place, int reasonStep) {
        String head = "watch w: ";
        PastWatch bench = past(head + formula + ";", times, p, q);
        String what = "reason of " + formula + " at " + step;
        Checks.due(what + ", place", ITEMS.length() + head.length() + place, bench.why(0, step, false));
        Checks.due(what + ", step", reasonStep, bench.why(0, step, true));
    }

    private static void reasons() {
        Checks.sentence("2. What formulas mean", "of f and g: the reason of the first one of its operands that does not hold (of a row of operands)", () -> {
            reason("p=1 and q=1", "0", "1", 0, 0, 0);
            reason("p=1 and q=1", "1", "0", 0, 8, 0);
            reason("p=1 and q=1", "0", "0", 0, 0, 0);
            reason("true and p=1 and q=1 and false", "0", "0", 0, 9, 0);
            reason("true and p=1 and q=1 and false", "1", "0", 0, 17, 0);
            reason("true and p=1 and q=1 and false", "1", "1", 0, 25, 0);
            reason("{p=1 and q=1} and false", "1", "0", 0, 9, 0);
        });
        Checks.sentence("2. What formulas mean", "of f or g: that of the last operand", () -> {
            reason("p=1 or q=1", "0", "0", 0, 7, 0);
            reason("p=1 or q=1 or p=2", "0", "0", 0, 14, 0);
            reason("p=1 or {q=1 and p=0}", "0", "0", 0, 8, 0);
            reason("p=1 or p=0 and q=1", "0", "0", 0, 15, 0);
            reason("{p=1 or q=1} or {p=2 or q=2}", "0", "0", 0, 24, 0);
        });
        Checks.sentence("2. What formulas mean", "of f implies g: that of g", () -> {
            reason("p=0 implies q=1", "0", "0", 0, 12, 0);
            reason("p=0 implies q=0 implies p=1", "0", "0", 0, 24, 0);
            reason("p=0 implies q=1 or p=1", "0", "0", 0, 19, 0);
            reason("{p=0 implies q=1} and true", "0", "0", 0, 13, 0);
        });
        Checks.sentence("2. What formulas mean",
            "of always f, with bounds or without: that of f at the first step of those meant, at which f does not hold", MeaningEdgesTest::alwaysReasons);
        Checks.sentence("2. What formulas mean", "Of prev f: if i is not 0, that of f at i - 1", () -> {
            reason("prev p=1", "00", ZEROS, 1, 5, 0);
            reason("prev p=1", "1101", ZEROS, 3, 5, 2);
            reason("prev prev p=1", "0000", ZEROS, 3, 10, 1);
            reason("prev prev p=1", "0000", ZEROS, 1, 5, 0);
            reason("prev {p=1 and q=1}", "11", "00", 1, 14, 0);
        });
        Checks.sentence("2. What formulas mean", "of prev at step 0 too", () -> {
            reason("prev p=1", "0", ZEROS, 0, 0, 0);
            reason("prev p=1", "1", ZEROS, 0, 0, 0);
            reason("{ prev true}", "1", ZEROS, 0, 2, 0);
            reason("prev prev true", "11", ZEROS, 1, 5, 0);
        });
        Checks.sentence("2. What formulas mean", "of is x: that of the formula of x. Of { f }: that of f", MeaningEdgesTest::namedReasons);
        Checks.sentence("2. What formulas mean", "of all others: the position of their first byte, and i", MeaningEdgesTest::otherReasons);
        Checks.sentence("2. What formulas mean", "(of a since or compare the first byte of its left side", () -> {
            reason("{p=1} since q=1", "11", "00", 1, 0, 1);
            reason("not p=1 since[0..0] q=1", "11", "01", 0, 0, 0);
            reason("true and prev p=1 since q=1", "00", "00", 1, 9, 1);
            reason("(p)+1=q", "11", "00", 1, 0, 1);
            reason("-p*2-1>=q", "11", "00", 1, 0, 1);
            reason("true and 5+p<q", "11", "00", 1, 9, 1);
            reason("if{true} then p else q<>1", "11", "00", 1, 0, 1);
        });
    }

    private static void alwaysReasons() {
        reason("always p=1", "0", ZEROS, 0, 7, 0);
        reason("always p=1", "0101", ZEROS, 3, 7, 0);
        reason("always p=1", "1100", ZEROS, 3, 7, 2);
        reason("always p=1", "1100", ZEROS, 2, 7, 2);
        reason("always {p=1 and q=1}", "1101", "1011", 3, 16, 1);
        reason("always prev p=1", "111", ZEROS, 2, 7, 0);
        reason("prev always p=1", "1000", ZEROS, 3, 12, 1);
        // With bounds: the first of those of the right age, at either bound, and none ahead of it.
        reason("always[7..18] p=1", TIMES, "0000000", ZEROS, 6, 14, 0);
        reason("always[7..17] p=1", TIMES, "0000000", ZEROS, 6, 14, 1);
        reason("always[7..15] p=1", TIMES, "0000000", ZEROS, 6, 14, 1);
        reason("always[7..14] p=1", TIMES, "0000000", ZEROS, 6, 14, 3);
        reason("always[8..8] p=1", TIMES, "0000000", ZEROS, 6, 13, 4);
        reason("always[8..8] p=1", TIMES, "0000100", ZEROS, 6, 13, 5);
        reason("always[0..0] p=1", TIMES, "1111110", ZEROS, 6, 13, 6);
        reason("always[0..1000] p=1", TIMES, "1110010", ZEROS, 6, 16, 3);
    }

    private static void namedReasons() {
        PastWatch bench = past("let l := {p=1 or q=1}; watch v: is l; watch w: {{always is v}}; watch x: true and is w;", new int[] {3, 3, 8}, "101", "000");
        int place = ITEMS.length() + 17;
        Checks.due("place of is", place, bench.why(0, 1, false));
        Checks.due("step of is", 1, bench.why(0, 1, true));
        // Through names and braces, to the step at which it broke first.
        for (int watch = 1; watch <= 2; watch++) {
            Checks.due("place of always is", place, bench.why(watch, 2, false));
            Checks.due("step of always is", 1, bench.why(watch, 2, true));
        }
        reason("{p=1}", "0", ZEROS, 0, 1, 0);
        reason("{{\n p=1}}", "0", ZEROS, 0, 4, 0);
        reason("{{p=1} and {q=1}}", "1", "0", 0, 12, 0);
        reason("is g", "1", "0", 0, ITEMS.indexOf("q = 1") - ITEMS.length() - 9, 0);
    }

    private static void otherReasons() {
        reason("false", "000", ZEROS, 2, 0, 2);
        reason("not p=0", "000", ZEROS, 2, 0, 2);
        reason("not {p=0 and q=0}", "000", ZEROS, 2, 0, 2);
        reason("rise p=0", "000", ZEROS, 2, 0, 2);
        reason("rise p=1", "000", ZEROS, 0, 0, 0);
        reason("fall p=0", "000", ZEROS, 2, 0, 2);
        reason("once p=1", "000", ZEROS, 2, 0, 2);
        reason("once[0..2] {p=1 and q=1}", "000", ZEROS, 2, 0, 2);
        reason("true and once p=1", "000", ZEROS, 2, 9, 2);
        reason("  not p=0", "000", ZEROS, 2, 2, 2);
        for (String compare : new String[] {"p=1", "p<>0", "p<0", "p>0", "p<=-1", "p>=1"}) {
            reason(compare, "000", ZEROS, 2, 0, 2);
        }
    }
}
