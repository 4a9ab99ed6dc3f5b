/** Promises 23 to 25: ask, answer, digest. */
final class QuestionsTest {
    private static final Class<?> STATE = IllegalStateException.class;
    private static final Class<?> BOUNDS = IndexOutOfBoundsException.class;

    public static void main(String[] args) {
        asking();
        askingWithoutProgram();
        errors();
        latestWithoutError();
        stepsBehind();
        programsBehind();
        digest();
        Checks.end("QuestionsTest");
    }

    private static void answers(PastWatch bench, String want) {
        for (int step = 0; step < want.length(); step++) {
            Checks.due("answer(" + step + ") of " + want, want.charAt(step) == '1', bench.answer(step));
        }
        Checks.refuses("answer behind the last step", BOUNDS, () -> bench.answer(want.length()));
        Checks.refuses("answer(-1)", BOUNDS, () -> bench.answer(-1));
    }

    private static PastWatch bench() {
        PastWatch bench = Checks.bench("signal s = 1; let odd := s % 2 = 1; value total = sum s; watch w: total < 7; watch v: s <> 2;");
        for (int i = 1; i <= 4; i++) {
            bench.set(0, i);
            bench.tick(i);
        }
        return bench;
    }

    private static void asking() {
        PastWatch bench = bench();
        Checks.refuses("answer ahead of ask", STATE, () -> bench.answer(0));
        Checks.refuses("the step comes first", BOUNDS, () -> bench.answer(4));
        Checks.askError(bench, "prev is odd", 0, -1);
        Checks.due("the tape is empty", 0, bench.count(6));
        answers(bench, "0101");
        Checks.askError(bench, "is w", 0, -1);
        answers(bench, "1110");
        Checks.askError(bench, "total - s = old total and time > 1", 0, -1);
        answers(bench, "0111");
        Checks.askError(bench, "is v since[2..4] is odd", 0, -1);
        answers(bench, "0001");
        Checks.askError(bench, "once[2..4] is odd", 0, -1);
        answers(bench, "0101");
    }

    private static void askingWithoutProgram() {
        PastWatch bench = new PastWatch();
        Checks.askError(bench, "1 < 2 and time = step", 0, -1);
        Checks.refuses("no step", BOUNDS, () -> bench.answer(0));
        Checks.askError(bench, "s = 1", 2, 0);
        Checks.askError(bench, "is s", 2, 3);
        Checks.due("compile", 0, Checks.compile(bench, "watch w: true;"));
        bench.tick(0);
        Checks.refuses("asked before the program was compiled", STATE, () -> bench.answer(0));
        Checks.due("compile", 1, Checks.compile(bench, "watch"));
        Checks.askError(bench, "is w", 2, 3);
        Checks.askError(bench, "true", 0, -1);
    }

    private static void errors() {
        PastWatch bench = bench();
        Checks.askError(bench, "", 1, 0);
        Checks.askError(bench, " \n ", 1, 3);
        Checks.askError(bench, "true;", 1, 4);
        Checks.askError(bench, "s", 1, 1);
        Checks.askError(bench, "s = 1 level 3", 1, 6);
        Checks.askError(bench, "watch q: true;", 1, 0);
        Checks.askError(bench, "{true", 1, 5);
        Checks.askError(bench, "{true}}", 1, 6);
        Checks.askError(bench, "is q and once[3..2] true", 2, 3);
        Checks.askError(bench, "once[3..2] is q", 5, 8);
        Checks.askError(bench, "once[3..2] is q or", 1, 18);
        Checks.askError(bench, "always[0..1001] true", 5, 10);
        Checks.askError(bench, "once[1001..1002] true", 5, 5);
        Checks.askError(bench, "true since[1001..3] true", 5, 11);
        Checks.askError(bench, "once[1001..1002] true level", 1, 22);
        Checks.askError(bench, "is s", 2, 3);
        Checks.askError(bench, "odd = 1", 2, 0);
        Checks.askError(bench, "is total", 2, 3);
        Checks.askError(bench, "w = 1", 2, 0);
        Checks.askError(bench, "{".repeat(11) + "true" + "}".repeat(11), 1, 10);
        Checks.askError(bench, "{".repeat(10) + "true" + "}".repeat(10), 0, -1);
        Checks.askError(bench, "true # true", 1, 5);
    }

    private static void latestWithoutError() {
        PastWatch bench = bench();
        for (int i = 0; i < 5; i++) {
            Checks.askError(bench, i % 2 == 0 ? "not is odd" : "is odd", 0, -1);
            Checks.askError(bench, "is w or is", 1, 10);
            answers(bench, i % 2 == 0 ? "0101" : "1010");
            Checks.askError(bench, "{is w or is x} and 1 = 1 and 1 = 1", 2, 12);
            answers(bench, i % 2 == 0 ? "0101" : "1010");
        }
    }

    private static void stepsBehind() {
        PastWatch bench = bench();
        Checks.askError(bench, "sum s >= 3 and prev is odd", 0, -1);
        answers(bench, "0101");
        bench.set(0, 5);
        bench.tick(1);
        bench.tick(1);
        answers(bench, "010101");
        bench.back(1);
        answers(bench, "0");
        bench.tick(0);
        answers(bench, "01");
        bench.keep();
        bench.restart();
        Checks.refuses("no step", BOUNDS, () -> bench.answer(0));
        bench.tick(0);
        bench.tick(0);
        bench.tick(0);
        answers(bench, "001");
        Checks.due("replay", 2, bench.replay());
        answers(bench, "01");
    }

    private static void programsBehind() {
        PastWatch bench = bench();
        Checks.askError(bench, "is odd", 0, -1);
        bench.keep();
        Checks.compile(bench, "signal t = 0; watch even: t % 2 = 0;");
        bench.replay();
        Checks.refuses("asked before the program was compiled", STATE, () -> bench.answer(0));
        Checks.askError(bench, "is odd", 2, 3);
        Checks.refuses("no ask without an error", STATE, () -> bench.answer(0));
        Checks.askError(bench, "is even", 0, -1);
        answers(bench, "0101");
    }

    /** The numbers of the digest, by the document, from what the other calls tell. */
    private static long digestOf(PastWatch bench) {
        long sum = 383;
        // Told once, so that the calls on a bench stay within the 512.
        int[] counts = new int[7];
        for (int what = 0; what <= 6; what++) {
            counts[what] = bench.count(what);
            sum = sum * 31 + counts[what];
        }
        for (int step = 0; step < counts[4]; step++) {
            sum = sum * 31 + bench.time(step);
            for (int i = 0; i < counts[0]; i++) {
                sum = sum * 31 + bench.signal(i, step);
            }
            for (int i = 0; i < counts[2]; i++) {
                sum = sum * 31 + bench.value(i, step);
            }
            for (int i = 0; i < counts[1]; i++) {
                sum = sum * 31 + (bench.let(i, step) ? 1 : 0);
            }
            for (int i = 0; i < counts[3]; i++) {
                sum = sum * 31 + (bench.watch(i, step) ? 1 : 0);
            }
        }
        for (int i = 0; i < counts[3]; i++) {
            for (int what = 0; what <= 4; what++) {
                sum = sum * 31 + bench.told(i, what);
            }
        }
        for (int i = 0; i < counts[0]; i++) {
            long before = bench.set(i, 0);
            bench.set(i, before);
            sum = sum * 31 + before;
        }
        return sum;
    }

    private static void digest() {
        PastWatch bench = new PastWatch();
        Checks.due("digest", digestOf(bench), bench.digest());
        Checks.type(bench, "signal a = 3");
        Checks.due("digest of a tape", digestOf(bench), bench.digest());
        Checks.type(bench, "; signal b = -4; let l := a > b; value v = a; value u = sum b; watch w: v > u; watch x: is l level 0;");
        bench.compile();
        Checks.due("digest of a program", digestOf(bench), bench.digest());
        for (int i = 0; i < 6; i++) {
            bench.set(i % 2, (i * 7919L - 3) << 40);
            bench.tick(i * 3);
            if (i % 2 == 1) {
                Checks.due("digest of steps", digestOf(bench), bench.digest());
            }
            if (i == 3) {
                bench.keep();
            }
        }
        bench.set(1, 12);
        Checks.due("digest of what is set", digestOf(bench), bench.digest());
        bench.back(2);
        Checks.due("digest of steps back", digestOf(bench), bench.digest());
        bench.replay();
        Checks.due("digest of a replay", digestOf(bench), bench.digest());
    }
}
