import java.util.function.Supplier;

/** The sentences of "What it is", "Terms" and of exceptions as such that name a boundary case: a test for each. */
final class TermsEdgesTest {
    private static final Class<?> STATE = IllegalStateException.class;
    private static final Class<?> ARGUMENT = IllegalArgumentException.class;
    private static final Class<?> BOUNDS = IndexOutOfBoundsException.class;
    private static final long MAX = Long.MAX_VALUE;
    private static final long MIN = Long.MIN_VALUE;
    private static final int LAST_CALL = 512;

    public static void main(String[] args) {
        Checks.sentence("What it is", "An object is used for at most 512 calls after it has been made", () -> {
            lastCallIsTick();
            lastCallIsAsk();
            lastCallIsFeed();
        });
        Checks.sentence("Terms", "All is reckoned in 64-bit integers, which wrap around", TermsEdgesTest::plusWraps);
        Checks.sentence("Terms", "All is reckoned in 64-bit integers, which wrap around", TermsEdgesTest::minusWraps);
        Checks.sentence("Terms", "All is reckoned in 64-bit integers, which wrap around", TermsEdgesTest::timesWraps);
        Checks.sentence("Terms", "All is reckoned in 64-bit integers, which wrap around", TermsEdgesTest::negativeWraps);
        Checks.sentence("Terms", "All is reckoned in 64-bit integers, which wrap around", TermsEdgesTest::divisionWraps);
        Checks.sentence("Terms", "All is reckoned in 64-bit integers, which wrap around", TermsEdgesTest::sumWraps);
        Checks.sentence("Terms", "All is reckoned in 64-bit integers, which wrap around", TermsEdgesTest::allBitsAreCompared);
        Checks.sentence("Terms", "/ and % by 0 yield 0", TermsEdgesTest::dividedByZero);
        Checks.sentence("Terms", "/ and % by 0 yield 0", TermsEdgesTest::remainderByZero);
        Checks.sentence("Terms", "/ is cut towards 0", TermsEdgesTest::cutTowardsZero);
        Checks.sentence("Terms", "% has the sign of the left operand", TermsEdgesTest::signOfRemainder);
        Checks.sentence("Terms", "Positions are counted from 0, in bytes", TermsEdgesTest::positions);
        Checks.sentence("2. What formulas mean", "A method that throws an exception changes nothing", TermsEdgesTest::refusedCalls);
        Checks.sentence("2. What formulas mean", "If several exceptions apply, the one that is named first is thrown", TermsEdgesTest::firstException);
        Checks.end("TermsEdgesTest");
    }

    // ---- the last call

    /** The calls that Checks.bench and Checks.ask need: count, feed for each twenty bytes, trim, and compile or ask. */
    private static int callsFor(String text) {
        return 3 + (text.length() + 19) / 20;
    }

    private static void lastCallIsTick() {
        String program = "signal s = 1; value v = sum s; watch w: v < 100;";
        PastWatch bench = Checks.bench(program);
        int steps = 0;
        for (int call = callsFor(program) + 1; call < LAST_CALL; call++) {
            if (steps == 120) {
                Checks.due("back, call " + call, 0, bench.back(0));
                steps = 0;
            } else {
                steps++;
                Checks.due("tick, call " + call, steps < 100 ? 0 : 1, bench.tick(1));
            }
        }
        Checks.due("tick, the last call", steps + 1 < 100 ? 0 : 1, bench.tick(1));
    }

    private static void lastCallIsAsk() {
        PastWatch bench = new PastWatch();
        String formula = "step < 7";
        int calls = 0;
        while (calls + callsFor(formula) <= LAST_CALL) {
            calls += callsFor(formula);
            Checks.due("ask, call " + calls, 0, Checks.ask(bench, formula));
        }
        while (calls < LAST_CALL) {
            calls++;
            Checks.due("errorAt, call " + calls, -1, bench.errorAt());
        }
    }

    private static void lastCallIsFeed() {
        PastWatch bench = new PastWatch();
        int bytes = 0;
        for (int call = 1; call <= LAST_CALL; call++) {
            if (bytes == 1800) {
                bytes = 0;
                Checks.due("trim, call " + call, 0, bench.trim(0));
            } else {
                bytes += 20;
                Checks.due("feed, call " + call, bytes, bench.feed(call, call, call, call, call));
            }
        }
    }

    // ---- numbers

    /** What an expression of a and b is at a first step. */
    private static void number(String expression, long a, long b, long want) {
        PastWatch bench = Checks.bench("signal a = 0; signal b = 0; value v = " + expression + "; watch w: v = v;");
        bench.set(0, a);
        bench.set(1, b);
        bench.tick(0);
        Checks.due(expression + " of " + a + " and " + b, want, bench.value(0, 0));
    }

    private static void formula(String formula, long a, long b, boolean want) {
        PastWatch bench = Checks.bench("signal a = 0; signal b = 0; watch w: " + formula + ";");
        bench.set(0, a);
        bench.set(1, b);
        bench.tick(0);
        Checks.due(formula + " of " + a + " and " + b, want, bench.watch(0, 0));
    }

    private static void plusWraps() {
        number("a + b", MAX, 1, MIN);
        number("a + b", MIN, -1, MAX);
        number("a + b", MIN, MIN, 0);
        number("a + b", MAX, MAX, -2);
        number("a + b", 0xffffffffL, 1, 0x100000000L);
    }

    private static void minusWraps() {
        number("a - b", MIN, 1, MAX);
        number("a - b", MAX, -1, MIN);
        number("a - b", 0, MIN, MIN);
        number("a - b", -1, MIN, MAX);
        number("a - b", MIN, MAX, 1);
    }

    private static void timesWraps() {
        number("a * b", MAX, 2, -2);
        number("a * b", MIN, -1, MIN);
        number("a * b", MIN, 2, 0);
        number("a * b", 0x100000000L, 0x100000000L, 0);
        number("a * b", 0x80000000L, 0x100000000L, MIN);
        number("a * b", MAX, MAX, 1);
    }

    private static void negativeWraps() {
        number("-a", MIN, 0, MIN);
        number("-a", MAX, 0, MIN + 1);
        number("--a", MIN, 0, MIN);
        number("-(a - 1)", MIN, 0, MIN + 1);
    }

    private static void divisionWraps() {
        number("a / b", MIN, -1, MIN);
        number("a % b", MIN, -1, 0);
        number("(a + 1) / b", MAX, -1, MIN);
    }

    private static void sumWraps() {
        PastWatch bench = Checks.bench("signal s = 1; value v = sum s; watch w: true;");
        long[] values = {MAX, 1, MIN, -1, 5};
        long[] sums = {MAX, MIN, 0, -1, 4};
        for (int step = 0; step < values.length; step++) {
            bench.set(0, values[step]);
            bench.tick(1);
            Checks.due("sum at " + step, sums[step], bench.value(0, step));
        }
    }

    private static void allBitsAreCompared() {
        formula("a < b", MIN, MAX, true);
        formula("a > b", MAX, MIN, true);
        formula("a <= b", MAX, MIN, false);
        formula("a >= b", MIN, 1, false);
        formula("a = b", 0x100000000L, 0, false);
        formula("a <> b", MIN, 0, true);
        PastWatch bench = Checks.bench("signal s = 1; value u = max s; value v = min s; value x = at{true} s; value y = old s; watch w: true;");
        long[] values = {0x100000000L, 1, MAX, MIN};
        long[] most = {0x100000000L, 0x100000000L, MAX, MAX};
        long[] least = {0x100000000L, 1, 1, MIN};
        for (int step = 0; step < values.length; step++) {
            bench.set(0, values[step]);
            bench.tick(1);
            Checks.due("max at " + step, most[step], bench.value(0, step));
            Checks.due("min at " + step, least[step], bench.value(1, step));
            Checks.due("at at " + step, values[step], bench.value(2, step));
            Checks.due("old at " + step, step == 0 ? 0L : values[step - 1], bench.value(3, step));
        }
    }

    private static void dividedByZero() {
        for (long a : new long[] {0, 1, -1, 7, MAX, MIN}) {
            number("a / b", a, 0, 0);
            number("a / (b - b)", a, 5, 0);
            number("a / 0", a, 5, 0);
        }
        number("a / b + 3", 8, 0, 3);
        number("a / b / b", 8, 0, 0);
    }

    private static void remainderByZero() {
        for (long a : new long[] {0, 1, -1, 7, MAX, MIN}) {
            number("a % b", a, 0, 0);
            number("a % (b - b)", a, 5, 0);
            number("a % 0", a, 5, 0);
        }
        number("a % b + 3", 8, 0, 3);
    }

    private static void cutTowardsZero() {
        number("a / b", 7, 2, 3);
        number("a / b", -7, 2, -3);
        number("a / b", 7, -2, -3);
        number("a / b", -7, -2, 3);
        number("a / b", 1, 2, 0);
        number("a / b", -1, 2, 0);
        number("a / b", 1, -2, 0);
        number("a / b", MAX, MIN, 0);
        number("a / b", MIN, MAX, -1);
    }

    private static void signOfRemainder() {
        number("a % b", 7, 3, 1);
        number("a % b", -7, 3, -1);
        number("a % b", 7, -3, 1);
        number("a % b", -7, -3, -1);
        number("a % b", 6, -3, 0);
        number("a % b", -6, 3, 0);
        number("a % b", MIN, MAX, -1);
        number("a % b", MAX, MIN, MAX);
    }

    private static void positions() {
        Checks.error("x", 1, 0);
        Checks.error("\n \nx", 1, 3);
        Checks.error("watch w: true;\u00e9", 1, 14);
        Checks.error("watch w:\n\nx\u00ff", 1, 11);
        PastWatch bench = Checks.bench("watch w:\n\n false;");
        bench.tick(0);
        Checks.due("place of a reason", 11, bench.why(0, 0, false));
        Checks.askError(bench, "?", 1, 0);
        Checks.askError(bench, "\n?", 1, 1);
    }

    // ---- exceptions

    /** A call on a bench, that is refused. */
    private interface Refused {
        Object run(PastWatch bench);
    }

    private static void changesNothing(String what, Supplier<PastWatch> maker, Class<?> exception, Refused call) {
        PastWatch bench = maker.get();
        Checks.refuses(what, exception, () -> call.run(bench));
        Checks.refuses(what + " once more", exception, () -> call.run(bench));
        Checks.due("all that is told behind " + what, Story.of(maker.get()), Story.of(bench));
    }

    /** Without a program, but with kept steps, and something on the tape. */
    private static PastWatch empty() {
        PastWatch bench = Checks.bench("signal s = 3; watch w: s = 3;");
        bench.tick(4);
        bench.keep();
        Checks.compile(bench, "watch w:");
        Checks.type(bench, "watch z: false;");
        return bench;
    }

    /** With a program, two steps more than the kept one, a question, an error of ask, and something on the tape. */
    private static PastWatch busy() {
        PastWatch bench = Checks.bench("signal s = 3; signal t = -4; let l := s = 3; value v = sum t; watch w: is l level 7; watch x: true;");
        bench.set(0, 5);
        bench.tick(4);
        bench.keep();
        bench.set(0, 3);
        bench.tick(1);
        bench.set(1, 9);
        bench.tick(0);
        bench.set(1, 11);
        Checks.askError(bench, "is l and step > 0", 0, -1);
        Checks.askError(bench, "true true", 1, 5);
        Checks.type(bench, "watch z: false; x");
        return bench;
    }

    private static PastWatch unasked() {
        PastWatch bench = Checks.bench("signal s = 3; watch w: s = 3;");
        bench.tick(1);
        return bench;
    }

    private static PastWatch fullOfSteps() {
        PastWatch bench = Checks.bench("signal s = 3; watch w: s = 3 and step < 119;");
        for (int step = 0; step < 120; step++) {
            bench.tick(2);
        }
        bench.keep();
        bench.set(0, 4);
        return bench;
    }

    private static PastWatch fullOfBytes() {
        PastWatch bench = busy();
        bench.trim(15);
        Checks.type(bench, " ".repeat(1781 - 15 - 1) + "?");
        return bench;
    }

    private static void refusedCalls() {
        changesNothing("feed", TermsEdgesTest::fullOfBytes, STATE, bench -> bench.feed(0, 0, 0, 0, 0));
        changesNothing("trim(-1)", TermsEdgesTest::busy, ARGUMENT, bench -> bench.trim(-1));
        changesNothing("trim beyond", TermsEdgesTest::busy, ARGUMENT, bench -> bench.trim(18));
        changesNothing("count(-1)", TermsEdgesTest::busy, BOUNDS, bench -> bench.count(-1));
        changesNothing("count(7)", TermsEdgesTest::busy, BOUNDS, bench -> bench.count(7));
        changesNothing("set(-1)", TermsEdgesTest::busy, BOUNDS, bench -> bench.set(-1, 6));
        changesNothing("set(2)", TermsEdgesTest::busy, BOUNDS, bench -> bench.set(2, 6));
        changesNothing("set without a program", TermsEdgesTest::empty, BOUNDS, bench -> bench.set(0, 6));
        changesNothing("tick(-1)", TermsEdgesTest::busy, ARGUMENT, bench -> bench.tick(-1));
        changesNothing("tick(1001)", TermsEdgesTest::busy, ARGUMENT, bench -> bench.tick(1001));
        changesNothing("tick without a program", TermsEdgesTest::empty, STATE, bench -> bench.tick(0));
        changesNothing("a 121st tick", TermsEdgesTest::fullOfSteps, STATE, bench -> bench.tick(0));
        changesNothing("back(-1)", TermsEdgesTest::busy, ARGUMENT, bench -> bench.back(-1));
        changesNothing("back(4)", TermsEdgesTest::busy, ARGUMENT, bench -> bench.back(4));
        changesNothing("back without a program", TermsEdgesTest::empty, ARGUMENT, bench -> bench.back(1));
        changesNothing("restart without a program", TermsEdgesTest::empty, STATE, bench -> bench.restart());
        changesNothing("replay without a program", TermsEdgesTest::empty, STATE, bench -> bench.replay());
        refusedLooks();
    }

    private static void refusedLooks() {
        for (int step : new int[] {-1, 3}) {
            changesNothing("time", TermsEdgesTest::busy, BOUNDS, bench -> bench.time(step));
            changesNothing("signal", TermsEdgesTest::busy, BOUNDS, bench -> bench.signal(0, step));
            changesNothing("value", TermsEdgesTest::busy, BOUNDS, bench -> bench.value(0, step));
            changesNothing("let", TermsEdgesTest::busy, BOUNDS, bench -> bench.let(0, step));
            changesNothing("watch", TermsEdgesTest::busy, BOUNDS, bench -> bench.watch(0, step));
            changesNothing("why", TermsEdgesTest::busy, BOUNDS, bench -> bench.why(0, step, true));
            changesNothing("answer", TermsEdgesTest::busy, BOUNDS, bench -> bench.answer(step));
        }
        for (int item : new int[] {-1, 2}) {
            changesNothing("signal", TermsEdgesTest::busy, BOUNDS, bench -> bench.signal(item, 0));
            changesNothing("value", TermsEdgesTest::busy, BOUNDS, bench -> bench.value(item, 0));
            changesNothing("let", TermsEdgesTest::busy, BOUNDS, bench -> bench.let(item, 0));
            changesNothing("watch", TermsEdgesTest::busy, BOUNDS, bench -> bench.watch(item, 0));
            changesNothing("told", TermsEdgesTest::busy, BOUNDS, bench -> bench.told(item, 0));
            changesNothing("why", TermsEdgesTest::busy, BOUNDS, bench -> bench.why(item, 0, false));
            changesNothing("differ", TermsEdgesTest::busy, BOUNDS, bench -> bench.differ(item, 0));
            changesNothing("differ", TermsEdgesTest::busy, BOUNDS, bench -> bench.differ(0, item));
            changesNothing("share", TermsEdgesTest::busy, BOUNDS, bench -> bench.share(item));
        }
        changesNothing("told(0, -1)", TermsEdgesTest::busy, BOUNDS, bench -> bench.told(0, -1));
        changesNothing("told(0, 5)", TermsEdgesTest::busy, BOUNDS, bench -> bench.told(0, 5));
        changesNothing("alarms(-1)", TermsEdgesTest::busy, ARGUMENT, bench -> bench.alarms(-1));
        changesNothing("alarms(10)", TermsEdgesTest::busy, ARGUMENT, bench -> bench.alarms(10));
        changesNothing("why where it holds", TermsEdgesTest::busy, STATE, bench -> bench.why(0, 1, true));
        changesNothing("answer without an ask", TermsEdgesTest::unasked, STATE, bench -> bench.answer(0));
    }

    private static void firstException() {
        PastWatch empty = new PastWatch();
        Checks.refuses("tick(-1) without a program", ARGUMENT, () -> empty.tick(-1));
        Checks.refuses("tick(1001) without a program", ARGUMENT, () -> empty.tick(1001));
        Checks.refuses("answer without a step and an ask", BOUNDS, () -> empty.answer(0));
        PastWatch full = fullOfSteps();
        Checks.refuses("tick(-1) at 120 steps", ARGUMENT, () -> full.tick(-1));
        Checks.refuses("tick(1001) at 120 steps", ARGUMENT, () -> full.tick(1001));
        Checks.refuses("answer(120) without an ask", BOUNDS, () -> full.answer(120));
        Checks.refuses("answer(-1) without an ask", BOUNDS, () -> full.answer(-1));
        Checks.refuses("why of no watch at a step where the other holds", BOUNDS, () -> full.why(1, 0, true));
        Checks.refuses("why at no step of a watch that holds", BOUNDS, () -> full.why(0, 120, true));
    }
}
