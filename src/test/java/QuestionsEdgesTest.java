/** The sentences of promises 23 to 25 that name a boundary case: a test for each. */
final class QuestionsEdgesTest {
    private static final Class<?> STATE = IllegalStateException.class;
    private static final Class<?> BOUNDS = IndexOutOfBoundsException.class;

    public static void main(String[] args) {
        ask();
        answer();
        digest();
        Checks.end("QuestionsEdgesTest");
    }

    /** The let l holds at odd steps, the signal s has the number of the step, the value v its sum. */
    private static PastWatch bench(int steps) {
        PastWatch bench = Checks.bench("signal s = 0; let l := s % 2 = 1; value v = sum s; watch w: v < 6; watch x: is l;");
        for (int step = 0; step < steps; step++) {
            bench.set(0, step);
            bench.tick(step);
        }
        return bench;
    }

    private static void answers(PastWatch bench, String want) {
        for (int step = 0; step < want.length(); step++) {
            Checks.due("answer(" + step + ") of " + want, want.charAt(step) == '1', bench.answer(step));
        }
        Checks.refuses("answer(" + want.length() + ")", BOUNDS, () -> bench.answer(want.length()));
    }

    // ---- promise 23

    private static void ask() {
        Checks.sentence("Promise 23", "Reads the tape as a formula, and looks where it holds: at all steps that were done", () -> {
            for (int steps : new int[] {0, 1, 5}) {
                PastWatch bench = bench(steps);
                Checks.askError(bench, "is l", 0, -1);
                answers(bench, "01010".substring(0, steps));
                Checks.askError(bench, "once[3..1000] is l", 0, -1);
                answers(bench, "00011".substring(0, steps));
                Checks.askError(bench, "prev is w and step = last{s = 4} + 4", 0, -1);
                answers(bench, "00010".substring(0, steps));
            }
            PastWatch full = bench(120);
            Checks.askError(full, "count{true} = 120 and max s = 119 and min s = 0", 0, -1);
            Checks.due("answer(118)", false, full.answer(118));
            Checks.due("answer(119)", true, full.answer(119));
        });
        Checks.sentence("Promise 23", "(All of the program is told ahead of it; without a program there are no names.)", () -> {
            PastWatch bench = bench(1);
            Checks.askError(bench, "s = v and not is l and is w and not is x", 0, -1);
            Checks.due("answer", true, bench.answer(0));
            Checks.askError(bench, "is y", 2, 3);
            PastWatch empty = new PastWatch();
            for (String name : new String[] {"s = 1", "v = 1"}) {
                Checks.askError(empty, name, 2, 0);
            }
            Checks.askError(empty, "is l", 2, 3);
            Checks.askError(empty, "true", 0, -1);
            Checks.compile(bench, "watch w: is s;");
            Checks.askError(bench, "s = 1", 2, 0);
            Checks.askError(bench, "is w", 2, 3);
        });
        Checks.sentence("Promise 23", "Returns 0, or the error, 1, 2 or 5", () -> {
            PastWatch bench = bench(1);
            Checks.askError(bench, "true", 0, -1);
            Checks.askError(bench, "", 1, 0);
            Checks.askError(bench, "true;", 1, 4);
            Checks.askError(bench, "is none", 2, 3);
            Checks.askError(bench, "once[2..1] true", 5, 8);
            Checks.askError(bench, "once[0..1001] true", 5, 8);
            // It tells no name, and none need be told; so there are no errors 3, 4 and 6.
            Checks.askError(bench, "let l := true", 1, 0);
            Checks.askError(bench, "true level 10", 1, 5);
        });
    }

    // ---- promise 24

    private static void answer() {
        Checks.sentence("Promise 24", "Returns whether the formula of the latest ask() without an error", () -> {
            PastWatch bench = bench(4);
            Checks.askError(bench, "is l", 0, -1);
            for (String wrong : new String[] {"", "not is l and", "not is l and is y", "once[2..1] not is l"}) {
                Checks.due("an error in " + wrong, true, Checks.ask(bench, wrong) > 0);
                answers(bench, "0101");
            }
            Checks.askError(bench, "not is l", 0, -1);
            answers(bench, "1010");
            Checks.due("an error", 1, Checks.ask(bench, "is l or s = 0 or {{"));
            answers(bench, "1010");
            bench.set(0, 9);
            bench.tick(0);
            answers(bench, "10100");
            longQuestions();
        });
        Checks.sentence("Promise 24", "since the program was compiled", () -> {
            PastWatch bench = bench(2);
            Checks.askError(bench, "is l", 0, -1);
            Checks.compile(bench, "let l := true; watch w: true;");
            bench.tick(0);
            Checks.refuses("answer behind a compile", STATE, () -> bench.answer(0));
            Checks.askError(bench, "is l", 0, -1);
            answers(bench, "1");
            PastWatch early = new PastWatch();
            Checks.askError(early, "true", 0, -1);
            Checks.compile(early, "watch w: true;");
            early.tick(0);
            Checks.refuses("answer of an ask ahead of the program", STATE, () -> early.answer(0));
            Checks.askError(early, "true", 0, -1);
            early.restart();
            early.tick(0);
            answers(early, "1");
        });
        Checks.sentence("Promise 24", "steps that were done behind it, or done again, count as they are now", () -> {
            PastWatch bench = bench(0);
            Checks.askError(bench, "prev is l or sum s > 4", 0, -1);
            bench.set(0, 1);
            bench.tick(0);
            bench.tick(0);
            answers(bench, "01");
            bench.set(0, 4);
            bench.tick(0);
            answers(bench, "011");
            bench.back(1);
            answers(bench, "0");
            bench.set(0, 2);
            bench.tick(0);
            bench.tick(0);
            answers(bench, "011");
            bench.keep();
            bench.restart();
            Checks.refuses("answer behind restart", BOUNDS, () -> bench.answer(0));
            bench.tick(0);
            bench.tick(0);
            answers(bench, "00");
            bench.replay();
            answers(bench, "011");
        });
        Checks.sentence("Promise 24", "Throws `IndexOutOfBoundsException` if there is no such step", () -> {
            for (int steps : new int[] {0, 1, 3, 120}) {
                PastWatch bench = bench(steps);
                Checks.askError(bench, "true", 0, -1);
                for (int none : new int[] {-1, steps, steps + 1, Integer.MIN_VALUE, Integer.MAX_VALUE}) {
                    Checks.refuses("answer(" + none + ")", BOUNDS, () -> bench.answer(none));
                }
                if (steps > 0) {
                    Checks.due("answer of the first step", true, bench.answer(0));
                    Checks.due("answer of the last step", true, bench.answer(steps - 1));
                }
            }
            PastWatch bench = bench(3);
            Checks.askError(bench, "true", 0, -1);
            bench.back(1);
            Checks.refuses("answer of a step that was taken back", BOUNDS, () -> bench.answer(1));
        });
        Checks.sentence("Promise 24", "Throws `IllegalStateException` if there was no such ask()", () -> {
            PastWatch bench = bench(2);
            Checks.refuses("answer without an ask", STATE, () -> bench.answer(0));
            Checks.askError(bench, "true or", 1, 7);
            Checks.refuses("answer behind an ask with the error 1", STATE, () -> bench.answer(1));
            Checks.askError(bench, "is y", 2, 3);
            Checks.refuses("answer behind an ask with the error 2", STATE, () -> bench.answer(0));
            Checks.askError(bench, "once[2..1] true", 5, 8);
            Checks.refuses("answer behind an ask with the error 5", STATE, () -> bench.answer(0));
            Checks.askError(bench, "true", 0, -1);
            answers(bench, "11");
        });
    }

    /** Of 400 tokens, of which the last ones matter, one behind the other and with an error between them. */
    private static void longQuestions() {
        PastWatch bench = bench(2);
        String longest = "not true" + " or false".repeat(197) + " or step=1";
        for (int i = 0; i < 3; i++) {
            Checks.askError(bench, longest, 0, -1);
            answers(bench, "01");
            Checks.askError(bench, "is l or is y", 2, 11);
            bench.back(0);
            bench.tick(0);
            bench.tick(0);
            answers(bench, "01");
        }
    }

    // ---- promise 25

    private static long digestOf(long... numbers) {
        long d = 383;
        for (long x : numbers) {
            d = d * 31 + x;
        }
        return d;
    }

    private static void digest() {
        Checks.sentence("Promise 25", "A number d starts with 383", () -> {
            Checks.due("digest of a new bench", digestOf(0, 0, 0, 0, 0, 0, 0), new PastWatch().digest());
            Checks.due("the same, reckoned by hand", 383L * 887503681L * 31L, new PastWatch().digest());
        });
        Checks.sentence("Promise 25", "d becomes d * 31 + x, which wraps around as a 64-bit integer", () -> {
            PastWatch bench = Checks.bench("signal s = 0; watch w: s < 0;");
            bench.set(0, Long.MIN_VALUE);
            bench.tick(1000);
            bench.set(0, Long.MAX_VALUE);
            bench.tick(0);
            bench.set(0, -1);
            Checks.due("digest", digestOf(1, 0, 0, 1, 2, 0, 0, 1000, Long.MIN_VALUE, 1, 1000, Long.MAX_VALUE, 0, 5, 1, 1, 1, 1, -1), bench.digest());
        });
        Checks.sentence("Promise 25", "what count() tells, in its order; for each step its time, the values of the signals, the values, 1 for each let that holds there, "
            + "else 0, the same for each watch; for each watch what told() tells, in its order; what each signal is set to", QuestionsEdgesTest::wholeDigest);
    }

    private static void wholeDigest() {
        PastWatch bench = Checks.bench("watch w: step = 0 level 8; signal s = 3; signal t = -4; let l := s = 3; let m := false; let n := true; "
            + "value v = s * t; watch x: is l;");
        Checks.due("digest without steps", digestOf(2, 3, 1, 2, 0, 0, 0, 8, 0, -1, 0, 0, 5, 0, -1, 0, 0, 3, -4), bench.digest());
        bench.tick(7);
        Checks.due("digest of a step", digestOf(2, 3, 1, 2, 1, 0, 0, 7, 3, -4, -12, 1, 0, 1, 1, 1, 8, 0, -1, 0, 0, 5, 0, -1, 0, 0, 3, -4), bench.digest());
        bench.keep();
        bench.set(0, 11);
        bench.set(1, 12);
        Checks.type(bench, "five!");
        Checks.due("digest of kept steps, a tape, and what is set",
            digestOf(2, 3, 1, 2, 1, 1, 5, 7, 3, -4, -12, 1, 0, 1, 1, 1, 8, 0, -1, 0, 0, 5, 0, -1, 0, 0, 11, 12), bench.digest());
        bench.tick(1);
        Checks.due("digest of two steps", digestOf(2, 3, 1, 2, 2, 1, 5, 7, 3, -4, -12, 1, 0, 1, 1, 1, 8, 11, 12, 132, 0, 0, 1, 0, 0,
            8, 1, 1, 1, 1, 5, 1, 1, 1, 1, 11, 12), bench.digest());
        bench.back(0);
        Checks.due("digest behind back", digestOf(2, 3, 1, 2, 0, 1, 5, 8, 0, -1, 0, 0, 5, 0, -1, 0, 0, 11, 12), bench.digest());
        bench.compile();
        Checks.due("digest behind an error", digestOf(0, 0, 0, 0, 0, 1, 0), bench.digest());
    }
}
